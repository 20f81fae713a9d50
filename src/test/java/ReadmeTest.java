import java.lang.reflect.Method;
import java.nio.file.Files;
import java.nio.file.Path;
import java.util.Set;
import java.util.TreeSet;
import java.util.regex.Matcher;
import java.util.regex.Pattern;

/** The calls that README.md shows, made one behind the other on one object, as a reader would. */
public final class ReadmeTest {
  private static final Pattern TEXT = Pattern.compile("String text = \"([^\"]*)\";.*");
  private static final Pattern FILL = Pattern.compile(
      "for \\(int i = 0; i < text\\.length\\(\\); i\\+\\+\\) x\\.put\\((\\d), i, text\\.charAt\\(i\\)\\);");
  private static final Pattern CALL =
      Pattern.compile("x\\.(\\w+)\\(([^)]*|.*text\\.length\\(\\))\\);\\s*// (-?\\d+|[A-Z]+)\\b.*");

  private final Set<String> called = new TreeSet<>();
  private ProphetCover x;
  private String text = "";

  public static void main(String[] args) throws Exception {
    ReadmeTest test = new ReadmeTest();
    boolean inside = false;
    for (String line : Files.readAllLines(Path.of("README.md"))) {
      if (line.startsWith("```")) {
        inside = line.equals("```java");
      } else if (inside) {
        test.line(line);
      }
    }
    Due.holds("README.md shows calls: " + test.called, test.called.size() > 20);
    Due.end();
  }

  private void line(String line) throws Exception {
    Matcher shown = TEXT.matcher(line);
    Matcher fill = FILL.matcher(line);
    Matcher call = CALL.matcher(line);
    if (line.equals("ProphetCover x = new ProphetCover();")) {
      x = new ProphetCover();
    } else if (shown.matches()) {
      text = shown.group(1);
    } else if (fill.matches()) {
      for (int i = 0; i < text.length(); i++) {
        x.put(Integer.parseInt(fill.group(1)), i, text.charAt(i));
      }
    } else if (call.matches()) {
      called.add(call.group(1));
      Due.due(line, answer(call.group(1), call.group(2)), number(call.group(3)));
    } else {
      Due.holds("a line that can be tested: " + line, false);
    }
  }

  private long answer(String name, String told) throws Exception {
    String[] arguments = told.isEmpty() ? new String[0] : told.split(", ");
    Class<?>[] types = new Class<?>[arguments.length];
    Object[] numbers = new Object[arguments.length];
    for (int a = 0; a < arguments.length; a++) {
      types[a] = int.class;
      numbers[a] = arguments[a].equals("text.length()") ? text.length() : Integer.parseInt(arguments[a]);
    }
    Method call = ProphetCover.class.getMethod(name, types);
    return ((Number) call.invoke(x, numbers)).longValue();
  }

  private static long number(String told) throws Exception {
    return told.matches("-?\\d+")
        ? Long.parseLong(told)
        : ((Number) ProphetCover.class.getField(told).get(null)).longValue();
  }
}
