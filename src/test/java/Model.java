import java.math.BigInteger;
import java.util.ArrayList;
import java.util.List;
import java.util.TreeMap;
import java.util.function.IntSupplier;
import java.util.regex.Matcher;
import java.util.regex.Pattern;

/**
 * What the document says, written apart from the program and in another way: sheets are real arrays
 * whose faults are the machine's own, prophets are objects of three classes, shares are fractions
 * of whole years, a text is looked at by a pattern.
 */
public final class Model {
  private static final int UNKNOWN = -1, OUTSIDE = -2, STATE = -3, FULL = -4, NONE = -9;
  private static final long LOST = Long.MIN_VALUE;
  private static final Pattern TEXT =
      Pattern.compile("w(/[0-9]){1,5}(;[msl][0-9]([0-2][0-9]|3[01])){1,4}");

  private class Modest {
    final int number, cover;
    int said;

    Modest(int number, int cover, int said) {
      this.number = number;
      this.cover = cover;
      this.said = said;
    }

    int kind() { return 0; }
    int pays() { return cover; }
    int tells() { mark(1); return cover; }
    int heard() { mark(4); return number; }

    final boolean fraud() {
      for (int e = 0; e < chances.size(); e++) {
        if (!in(said, e)) return false;
      }
      return true;
    }

    final int gets(int set) {
      int sum = 0;
      for (int e = 0; e < chances.size(); e++) {
        if (in(said, e) && in(set, e)) sum += pays();
      }
      return fraud() ? 0 : sum;
    }
  }

  private class Sure extends Modest {
    Sure(int number, int cover, int said) { super(number, cover, said); }
    @Override int kind() { return 1; }
    @Override int pays() { return super.pays() + 1; }
    @Override int tells() { mark(2); return super.tells() + 100; }
    final int modestTells() { return super.tells(); }
  }

  private final class Loud extends Sure {
    Loud(int number, int cover, int said) { super(number, cover, said); }
    @Override int kind() { return 2; }
    @Override int pays() { return 2 * super.pays(); }
    @Override int tells() { mark(3); int sure = super.tells(); return sure + modestTells(); }
    @Override int heard() { mark(5); return 20; }
  }

  private final Object[] rows = new Object[4];
  private List<Integer> chances = new ArrayList<>();
  private List<Modest> prophets = new ArrayList<>();
  private final List<int[]> readings = new ArrayList<>();
  private int trace, fault;
  private List<Integer> countedFor;
  private int[] counted;

  private void mark(int number) { trace = trace * 31 + number; }
  private static boolean in(int set, int e) { return BigInteger.valueOf(set).testBit(e); }
  private int sets() { return (int) Math.pow(2, chances.size()); }
  private boolean event(int e) { return e >= 0 && e < chances.size(); }
  private boolean prophet(int p) { return p >= 0 && p < prophets.size(); }
  private boolean within(long v, long least, long most) { return v >= least && v <= most; }

  private Modest one(int kind, int number, int cover, int said) {
    return kind == 0 ? new Modest(number, cover, said)
        : kind == 1 ? new Sure(number, cover, said) : new Loud(number, cover, said);
  }

  /** What a body answers, or the fault to which the machine came in it. */
  private int faultOr(IntSupplier body) {
    fault = 0;
    try {
      return body.getAsInt();
    } catch (NullPointerException x) {
      fault = 1;
    } catch (ClassCastException x) {
      fault = 2;
    } catch (IndexOutOfBoundsException x) {
      fault = 3;
    } catch (NegativeArraySizeException x) {
      fault = 4;
    }
    return -10 - fault;
  }

  private static int at(Object row, int lane, int i) {
    return lane == 0 ? ((byte[]) row)[i] : lane == 1 ? ((short[]) row)[i] : ((int[]) row)[i];
  }

  private static int length(Object row, int lane) {
    return lane == 0 ? ((byte[]) row).length : lane == 1 ? ((short[]) row).length
        : ((int[]) row).length;
  }

  private static int[] part(Object row, int lane, int i, int n) {
    int length = length(row, lane);
    if (n < 0) throw new NegativeArraySizeException();
    if (!(i >= 0 && i <= length && (long) i + n <= length)) throw new IndexOutOfBoundsException();
    int[] part = new int[n];
    for (int k = 0; k < n; k++) part[k] = at(row, lane, i + k);
    return part;
  }

  public int office(int sheet, int lane, int i, int n) {
    fault = 0;
    if (!within(sheet, 0, 3)) return UNKNOWN;
    if (!within(lane, 0, 2)) return OUTSIDE;
    return faultOr(() -> {
      StringBuilder text = new StringBuilder();
      for (int code : part(rows[sheet], lane, i, n)) {
        text.append(within(code, 32, 126) ? (char) code : '?');
      }
      return officeBy(text.toString());
    });
  }

  private int officeBy(String text) {
    Matcher whole = TEXT.matcher(text);
    if (!whole.matches()) {
      int goesOn = 0;
      for (int n = 1; n <= text.length(); n++) {
        Matcher m = TEXT.matcher(text.substring(0, n));
        if (m.matches() || m.hitEnd()) goesOn = n; else break;
      }
      return -100 - goesOn;
    }
    readings.clear();
    chances = new ArrayList<>();
    prophets = new ArrayList<>();
    String[] parts = text.split(";");
    for (String c : parts[0].substring(2).split("/")) chances.add(Integer.parseInt(c));
    for (int p = 1; p < parts.length; p++) {
      prophets.add(one("msl".indexOf(parts[p].charAt(0)), p - 1,
          Integer.parseInt(parts[p].substring(1, 2)), Integer.parseInt(parts[p].substring(2))));
    }
    return prophets.size();
  }

  public int chance(int e) { return event(e) ? chances.get(e) : UNKNOWN; }

  public int fate(int e, int v) {
    return !event(e) ? UNKNOWN : !within(v, 0, 9) ? OUTSIDE : chances.set(e, v);
  }

  public int ofProphet(int p, int what) {
    if (!prophet(p)) return UNKNOWN;
    Modest m = prophets.get(p);
    return what == 0 ? m.kind() : what == 1 ? m.cover : what == 2 ? m.said : what == 3 ? m.pays()
        : what == 4 ? (m.fraud() ? 1 : 0) : OUTSIDE;
  }

  public int say(int p, int set) {
    if (!prophet(p)) return UNKNOWN;
    if (!within(set, 0, 31)) return OUTSIDE;
    int before = prophets.get(p).said;
    prophets.get(p).said = set;
    return before;
  }

  public int paid(int p, int set) {
    return !prophet(p) ? UNKNOWN : !within(set, 0, sets() - 1) ? OUTSIDE : prophets.get(p).gets(set);
  }

  public int total(int set) {
    return prophets.isEmpty() ? STATE : !within(set, 0, sets() - 1) ? OUTSIDE : all(set);
  }

  private int all(int set) {
    return prophets.stream().mapToInt(m -> m.gets(set)).sum();
  }

  public int years(int premium, int sheet, int lane, int i, int n, int what) {
    fault = 0;
    if (!within(sheet, 0, 3)) return UNKNOWN;
    if (!within(premium, 0, 9) || !within(lane, 0, 2) || !within(n, 0, 40)) return OUTSIDE;
    if (!within(what, 0, 3) && !within(what, 10, 13)) return OUTSIDE;
    if (prophets.isEmpty()) return STATE;
    return faultOr(() -> told(premium, part(rows[sheet], lane, i, n), what));
  }

  private int told(int premium, int[] years, int what) {
    List<Integer> has = new ArrayList<>(List.of(0));
    List<Integer> pays = new ArrayList<>(List.of(0));
    int one = 0;
    for (int set : years) {
      if (!within(set, 0, sets() - 1)) return OUTSIDE;
      int now = has.get(has.size() - 1);
      for (Modest m : prophets) {
        now -= m.gets(set);
        for (int e = 0; e < chances.size(); e++) now += in(m.said, e) ? premium : 0;
      }
      has.add(now);
      pays.add(all(set));
      one += prophet(what - 10) ? prophets.get(what - 10).gets(set) : 0;
    }
    switch (what) {
      case 0: return has.get(has.size() - 1);
      case 1:
        for (int y = 1; y < has.size(); y++) if (has.get(y) < 0) return y - 1;
        return NONE;
      case 2: return pays.stream().mapToInt(v -> v).sum();
      case 3: return pays.stream().mapToInt(v -> v).max().getAsInt();
      default: return prophet(what - 10) ? one : NONE;
    }
  }

  private static long share(BigInteger upper, BigInteger lower, int which) {
    BigInteger common = upper.gcd(lower);
    return (which == 0 ? upper : lower).divide(common).longValueExact();
  }

  /** In how many of 100000 years each set comes. Each digit of a year's number is an event's. */
  private int[] yearsOfSets() {
    if (chances.equals(countedFor)) return counted;
    int[] of = new int[sets()];
    int parts = 1;
    for (int e = 0; e < chances.size(); e++) parts *= 10;
    for (int year = 0; year < parts; year++) {
      int set = 0, rest = year;
      for (int e = 0; e < chances.size(); e++, rest /= 10) {
        if (rest % 10 < chances.get(e)) set |= 1 << e;
      }
      of[set] += 100000 / parts;
    }
    countedFor = new ArrayList<>(chances);
    counted = of;
    return of;
  }

  /** By what is paid: in how many of 100000 years. */
  private TreeMap<Integer, Integer> inYears(List<Modest> paid) {
    TreeMap<Integer, Integer> years = new TreeMap<>();
    int[] of = yearsOfSets();
    for (int set = 0; set < of.length; set++) {
      int amount = 0;
      for (Modest m : paid) amount += m.gets(set);
      if (of[set] > 0) years.merge(amount, of[set], Integer::sum);
    }
    return years;
  }

  private BigInteger mean(Modest m) {
    long sum = 0;
    for (var row : inYears(List.of(m)).entrySet()) sum += (long) row.getKey() * row.getValue();
    return BigInteger.valueOf(sum);
  }

  public long fair(int p, int which) {
    if (!prophet(p) || !within(which, 0, 1)) return LOST;
    return share(mean(prophets.get(p)), BigInteger.valueOf(100000), which);
  }

  public int safe(int p) {
    if (!prophet(p)) return UNKNOWN;
    int most = 0;
    for (int set = 0; set < sets(); set++) most = Math.max(most, prophets.get(p).gets(set));
    return most;
  }

  public int hold(int n) {
    if (!within(n, 0, 10)) return OUTSIDE;
    if (prophets.isEmpty()) return STATE;
    TreeMap<Integer, Integer> years = inYears(prophets);
    for (int amount = 0; ; amount++) {
      int covered = years.headMap(amount, true).values().stream().mapToInt(v -> v).sum();
      if (covered >= n * 10000) return amount;
    }
  }

  public int best(int p, int premium) {
    if (!prophet(p)) return UNKNOWN;
    if (!within(premium, 0, 9)) return OUTSIDE;
    int best = 0;
    long most = Long.MIN_VALUE;
    for (int set = 0; set < sets() - 1; set++) {
      Modest m = prophets.get(p);
      long gain = mean(one(m.kind(), p, m.cover, set)).longValueExact();
      for (int e = 0; e < chances.size(); e++) gain -= in(set, e) ? premium * 100000L : 0;
      if (gain > most) {
        most = gain;
        best = set;
      }
    }
    return best;
  }

  public int came(int v, int what) {
    if (!within(v, 0, 999) || !within(what, 0, 1)) return OUTSIDE;
    if (prophets.isEmpty()) return STATE;
    List<Integer> found = new ArrayList<>();
    for (int set = 0; set < sets(); set++) if (all(set) == v) found.add(set);
    return what == 0 ? found.size() : found.isEmpty() ? NONE : found.get(0);
  }

  public int reading(int p, int set, int v) {
    if (!prophet(p)) return UNKNOWN;
    if (!within(set, 0, sets() - 1) || !within(v, 0, 999)) return OUTSIDE;
    if (readings.size() == 8) return FULL;
    readings.add(new int[] {p, set, v});
    return readings.size() - 1;
  }

  public int back(int k) {
    if (!within(k, 0, readings.size())) return OUTSIDE;
    for (int i = 0; i < k; i++) readings.remove(readings.size() - 1);
    return readings.size();
  }

  /** Whether all readings are so with another one in the place of a prophet. */
  private boolean so(Modest other) {
    Modest before = prophets.set(other.number, other);
    boolean so = readings.stream().allMatch(r -> prophets.get(r[0]).gets(r[1]) == r[2]);
    prophets.set(other.number, before);
    return so;
  }

  public int covers(int p) {
    if (!prophet(p)) return UNKNOWN;
    Modest m = prophets.get(p);
    int found = 0;
    for (int c = 0; c <= 9; c++) if (so(one(m.kind(), p, c, m.said))) found += 1 << c;
    return found;
  }

  public int kinds(int p) {
    if (!prophet(p)) return UNKNOWN;
    Modest m = prophets.get(p);
    int found = 0;
    for (int kind = 0; kind <= 2; kind++) if (so(one(kind, p, m.cover, m.said))) found += 1 << kind;
    return found;
  }

  public int sayings(int p, int e) {
    if (!prophet(p) || !event(e)) return UNKNOWN;
    Modest m = prophets.get(p);
    BigInteger said = BigInteger.valueOf(m.said);
    return (so(one(m.kind(), p, m.cover, said.clearBit(e).intValue())) ? 1 : 0)
        + (so(one(m.kind(), p, m.cover, said.setBit(e).intValue())) ? 2 : 0);
  }

  public long odds(int v, int which) {
    if (prophets.isEmpty() || !within(v, 0, 999) || !within(which, 0, 1)) return LOST;
    int so = inYears(prophets).tailMap(v, true).values().stream().mapToInt(y -> y).sum();
    return share(BigInteger.valueOf(so), BigInteger.valueOf(100000), which);
  }

  public int sheet(int k, int lane, int n) {
    fault = 0;
    if (!within(k, 0, 3)) return UNKNOWN;
    if (!within(lane, 0, 2) || n > 60) return OUTSIDE;
    return faultOr(() -> {
      rows[k] = lane == 0 ? new byte[n] : lane == 1 ? new short[n] : new int[n];
      return 1;
    });
  }

  public int lose(int k) {
    if (!within(k, 0, 3)) return UNKNOWN;
    int had = rows[k] == null ? 0 : 1;
    rows[k] = null;
    return had;
  }

  public int put(int k, int i, int v) {
    fault = 0;
    if (!within(k, 0, 3)) return UNKNOWN;
    return faultOr(() -> {
      if (rows[k] instanceof byte[] bytes) bytes[i] = (byte) v;
      else if (rows[k] instanceof short[] shorts) shorts[i] = (short) v;
      else ((int[]) rows[k])[i] = v;
      return 1;
    });
  }

  public long cell(int k, int i, int lane) {
    fault = 0;
    if (!within(k, 0, 3) || !within(lane, 0, 2)) return LOST;
    int[] found = new int[1];
    faultOr(() -> found[0] = at(rows[k], lane, i));
    return fault == 0 ? found[0] : LOST;
  }

  public int copy(int k, int i, int other, int j, int n) {
    fault = 0;
    if (!within(k, 0, 3) || !within(other, 0, 3)) return UNKNOWN;
    return faultOr(() -> {
      try {
        System.arraycopy(rows[k], i, rows[other], j, n);
      } catch (ArrayStoreException x) {
        throw new ClassCastException();
      }
      return n;
    });
  }

  public int tell(int p) { return prophet(p) ? prophets.get(p).tells() : UNKNOWN; }
  public int hear(int p) { return prophet(p) ? prophets.get(p).heard() : UNKNOWN; }

  public int as(int p, int kind) {
    fault = 0;
    if (!prophet(p)) return UNKNOWN;
    if (!within(kind, 0, 2)) return OUTSIDE;
    List<Class<? extends Modest>> kinds = List.of(Modest.class, Sure.class, Loud.class);
    return faultOr(() -> kinds.get(kind).cast(prophets.get(p)) == null ? 0 : 1);
  }

  public int trace() { return trace; }
  public int fault() { return fault; }

  public int many(int what) {
    return what == 0 ? prophets.size() : what == 1 ? chances.size()
        : what == 2 ? (int) prophets.stream().filter(Modest::fraud).count()
        : what == 3 ? readings.size() : OUTSIDE;
  }
}
