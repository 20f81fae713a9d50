import java.lang.reflect.Method;
import java.lang.reflect.Modifier;
import java.nio.file.Files;
import java.nio.file.Path;
import java.util.ArrayList;
import java.util.Comparator;
import java.util.List;

/** Runs the tests of a class, each of which bears its promise's number and the document's words. */
final class Edges {
  static final String NAME = "(terms|promise\\d\\d)_\\w+";
  private static final Path DOCUMENT = Path.of("../shared/DOC.md");

  private Edges() {}

  static List<Method> testsOf(Class<?> all) {
    List<Method> tests = new ArrayList<>();
    for (Method m : all.getDeclaredMethods()) {
      if (m.isAnnotationPresent(Says.class)) {
        tests.add(m);
      }
    }
    tests.sort(Comparator.comparing(Method::getName));
    return tests;
  }

  static void run(Class<?> all) throws Exception {
    String document = evenly(Files.readString(DOCUMENT));
    List<Method> tests = testsOf(all);
    for (Method test : tests) {
      Due.test = test.getName() + ": ";
      Due.holds("it is static and named by its promise",
          Modifier.isStatic(test.getModifiers()) && test.getName().matches(NAME));
      String words = test.getAnnotation(Says.class).value();
      Due.holds("the document says: " + words, document.contains(evenly(words)));
      test.invoke(null);
    }
    Due.test = "";
    System.out.println(tests.size() + " tests of " + all.getName());
    Due.end();
  }

  private static String evenly(String text) {
    return text.replaceAll("\\s+", " ");
  }
}
