import java.lang.reflect.Method;
import java.nio.file.Files;
import java.nio.file.Path;
import java.util.Set;
import java.util.TreeSet;
import java.util.stream.Stream;

/** Whether every promise of the document has tests of its edges, by name, and every one of them runs. */
public final class EveryPromiseTest {
  private static final int PROMISES = 31;

  public static void main(String[] args) throws Exception {
    Set<String> numbers = new TreeSet<>();
    for (String name : classes()) {
      Class<?> all = Class.forName(name);
      for (Method m : all.getDeclaredMethods()) {
        if (m.getName().matches(Edges.NAME)) {
          Due.holds(name + "." + m.getName() + " tells what the document says",
              m.isAnnotationPresent(Says.class));
          numbers.add(m.getName().substring(0, m.getName().indexOf('_')));
        }
      }
    }
    Due.holds("the terms have tests", numbers.contains("terms"));
    for (int promise = 1; promise <= PROMISES; promise++) {
      String number = String.format("promise%02d", promise);
      Due.holds(number + " has tests", numbers.contains(number));
    }
    Due.due("no other number: " + numbers, numbers.size(), PROMISES + 1);
    Due.end();
  }

  private static Set<String> classes() throws Exception {
    Set<String> names = new TreeSet<>();
    try (Stream<Path> files = Files.list(Path.of("src/test/java"))) {
      files.map(file -> file.getFileName().toString()).filter(name -> name.endsWith("EdgesTest.java"))
          .forEach(name -> names.add(name.replace(".java", "")));
    }
    Due.holds("tests of edges: " + names, names.size() >= 6);
    return names;
  }
}
