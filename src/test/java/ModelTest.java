import java.lang.reflect.Method;
import java.util.ArrayList;
import java.util.Comparator;
import java.util.List;
import java.util.Map;
import java.util.Random;
import java.util.TreeMap;

/** Many runs of calls, each answer held against the model. The seed is fixed: it is always the same. */
public final class ModelTest {
  private static final int RUNS = 400, CALLS = 512;
  private static final int[] EXTREMES = {Integer.MIN_VALUE, Integer.MIN_VALUE + 10, -1, 1 << 16, 61,
      1000, Integer.MAX_VALUE - 1, Integer.MAX_VALUE};
  /** For each call the most that each argument may ordinarily be; one beyond is tried, too. */
  private static final Map<String, int[]> MOST = Map.ofEntries(
      Map.entry("office", new int[] {3, 2, 3, 36}), Map.entry("chance", new int[] {4}),
      Map.entry("fate", new int[] {4, 9}), Map.entry("ofProphet", new int[] {3, 4}),
      Map.entry("say", new int[] {3, 31}), Map.entry("paid", new int[] {3, 31}),
      Map.entry("total", new int[] {31}), Map.entry("years", new int[] {9, 3, 2, 4, 12, 14}),
      Map.entry("fair", new int[] {3, 1}), Map.entry("safe", new int[] {3}),
      Map.entry("hold", new int[] {10}), Map.entry("best", new int[] {3, 9}),
      Map.entry("came", new int[] {40, 1}), Map.entry("reading", new int[] {3, 31, 30}),
      Map.entry("back", new int[] {8}), Map.entry("covers", new int[] {3}),
      Map.entry("kinds", new int[] {3}), Map.entry("sayings", new int[] {3, 4}),
      Map.entry("odds", new int[] {60, 1}), Map.entry("sheet", new int[] {3, 2, 60}),
      Map.entry("lose", new int[] {3}), Map.entry("put", new int[] {3, 20, 300}),
      Map.entry("cell", new int[] {3, 20, 2}), Map.entry("copy", new int[] {3, 12, 3, 12, 12}),
      Map.entry("tell", new int[] {3}), Map.entry("hear", new int[] {3}),
      Map.entry("as", new int[] {3, 2}), Map.entry("trace", new int[0]),
      Map.entry("fault", new int[0]), Map.entry("many", new int[] {3}));

  private final Random random;
  private final List<String> told = new ArrayList<>();
  private final Map<String, Integer> answered = new TreeMap<>();
  private ProphetCover x;
  private Model model;
  private int left;

  private ModelTest(long seed) {
    random = new Random(seed);
  }

  public static void main(String[] args) throws Exception {
    ModelTest test = new ModelTest(20261118L);
    for (int run = 0; run < RUNS; run++) {
      test.run(run);
    }
    for (String name : MOST.keySet()) {
      int count = test.answered.getOrDefault(name, 0);
      Due.holds(name + " is often answered, not refused: " + count, count > 200);
    }
    Due.end();
  }

  private static List<Method> calls() {
    List<Method> calls = new ArrayList<>();
    for (Method m : Model.class.getDeclaredMethods()) {
      if (MOST.containsKey(m.getName()) && !m.isSynthetic()) {
        calls.add(m);
      }
    }
    calls.sort(Comparator.comparing(Method::getName));
    return calls;
  }

  private void run(int run) throws Exception {
    x = new ProphetCover();
    model = new Model();
    told.clear();
    left = CALLS;
    List<Method> calls = calls();
    while (left > 0) {
      int kind = random.nextInt(40);
      if (kind == 0 || left == CALLS - 20) {
        putText();
      } else if (kind == 1) {
        putYears();
      } else if (kind <= 3) {
        trueReading();
      } else {
        Method call = calls.get(random.nextInt(calls.size()));
        if (call.getName().matches("office|lose|sheet") && random.nextInt(4) > 0) {
          continue;
        }
        call(call.getName(), anyOf(call.getName()));
      }
    }
  }

  private int[] anyOf(String name) {
    int[] most = MOST.get(name);
    int[] any = new int[most.length];
    for (int a = 0; a < any.length; a++) {
      any[a] = random.nextInt(most[a] + 1);
    }
    if (any.length > 0 && random.nextInt(5) == 0) {
      int a = random.nextInt(any.length);
      int way = random.nextInt(3);
      any[a] = way == 0 ? -1 : way == 1 ? most[a] + 1 : EXTREMES[random.nextInt(EXTREMES.length)];
    }
    return any;
  }

  private long call(String name, int... arguments) throws Exception {
    if (left-- <= 0) {
      return 0;
    }
    Class<?>[] types = new Class<?>[arguments.length];
    Object[] boxed = new Object[arguments.length];
    StringBuilder text = new StringBuilder(name).append('(');
    for (int a = 0; a < arguments.length; a++) {
      types[a] = int.class;
      boxed[a] = arguments[a];
      text.append(a == 0 ? "" : ", ").append(arguments[a]);
    }
    told.add(text.append(')').toString());
    long got = ((Number) ProphetCover.class.getMethod(name, types).invoke(x, boxed)).longValue();
    long due = ((Number) Model.class.getMethod(name, types).invoke(model, boxed)).longValue();
    if (got != due) {
      System.out.println(told.subList(Math.max(0, told.size() - 60), told.size()));
      Due.due(told.get(told.size() - 1), got, due);
      Due.end();
    }
    if (due >= 0) {
      answered.merge(name, 1, Integer::sum);
    }
    return got;
  }

  private void putText() throws Exception {
    StringBuilder text = new StringBuilder("w");
    for (int e = 1 + random.nextInt(5); e > 0; e--) {
      text.append('/').append(random.nextInt(10));
    }
    for (int p = 1 + random.nextInt(4); p > 0; p--) {
      int said = random.nextInt(32);
      text.append(';').append("msl".charAt(random.nextInt(3))).append(random.nextInt(10));
      text.append(said / 10).append(said % 10);
    }
    int change = random.nextInt(8);
    int place = random.nextInt(text.length());
    if (change == 0) {
      text.setCharAt(place, "w/;msl0139 x".charAt(random.nextInt(12)));
    } else if (change == 1) {
      text.insert(place, "w/;msl0139 x".charAt(random.nextInt(12)));
    } else if (change == 2) {
      text.deleteCharAt(place);
    }
    int lane = random.nextInt(3);
    int k = random.nextInt(4);
    int ahead = random.nextInt(3);
    call("sheet", k, lane, ahead + text.length() + random.nextInt(3));
    for (int i = 0; i < text.length(); i++) {
      call("put", k, ahead + i, text.charAt(i));
    }
    call("office", k, lane, ahead, change == 3 ? place : text.length());
  }

  private void putYears() throws Exception {
    int k = random.nextInt(4);
    int lane = random.nextInt(3);
    int n = random.nextInt(13);
    call("sheet", k, lane, n);
    int sets = 1 << model.many(1);
    for (int i = 0; i < n; i++) {
      call("put", k, i, random.nextInt(30) == 0 ? sets : random.nextInt(sets));
    }
    int premium = random.nextInt(10);
    for (int what = 0; what < 14; what++) {
      call("years", premium, k, lane, 0, n, what);
    }
  }

  /** A reading as it is, so that something is learned by it and others still hold. */
  private void trueReading() throws Exception {
    int p = random.nextInt(4);
    int set = random.nextInt(1 << model.many(1));
    long paid = call("paid", p, set);
    if (paid >= 0) {
      call("reading", p, set, (int) paid);
      int e = random.nextInt(5);
      call("covers", p);
      call("kinds", p);
      call("sayings", p, e);
    }
  }
}
