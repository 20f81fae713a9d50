import java.lang.reflect.Constructor;
import java.lang.reflect.Field;
import java.lang.reflect.Method;
import java.lang.reflect.Modifier;
import java.nio.file.Files;
import java.nio.file.Path;
import java.util.Arrays;
import java.util.List;
import java.util.Set;
import java.util.TreeSet;
import java.util.regex.Matcher;
import java.util.regex.Pattern;

/** The face of the class, and those rules of LANGUAGE.md that can be looked up. */
public final class LanguageTest {
  private static final String FACE = """
      int office(int,int,int,int) int chance(int) int fate(int,int) int ofProphet(int,int)
      int say(int,int) int paid(int,int) int total(int) int years(int,int,int,int,int,int)
      long fair(int,int) int safe(int) int hold(int) int best(int,int) int came(int,int)
      int reading(int,int,int) int back(int) int covers(int) int kinds(int) int sayings(int,int)
      long odds(int,int) int sheet(int,int,int) int lose(int) int put(int,int,int)
      long cell(int,int,int) int copy(int,int,int,int,int) int tell(int) int hear(int)
      int as(int,int) int trace() int fault() int many(int)""";
  private static final Set<String> CONSTANTS =
      Set.of("UNKNOWN", "OUTSIDE", "STATE", "FULL", "NONE", "LOST");

  public static void main(String[] args) throws Exception {
    face();
    classes();
    String source = Files.readString(Path.of("src/main/java/ProphetCover.java"));
    words(withoutComments(source));
    methods(withoutComments(source));
    Due.end();
  }

  private static String signature(Method m) {
    StringBuilder text = new StringBuilder(m.getReturnType().getName() + " " + m.getName() + "(");
    for (int i = 0; i < m.getParameterCount(); i++) {
      text.append(i == 0 ? "" : ",").append(m.getParameterTypes()[i].getName());
    }
    return text.append(')').toString();
  }

  private static void face() {
    int modifiers = ProphetCover.class.getModifiers();
    Due.holds("public and final", Modifier.isPublic(modifiers) && Modifier.isFinal(modifiers));
    Constructor<?>[] constructors = ProphetCover.class.getDeclaredConstructors();
    Due.holds("one constructor, public, of nothing", constructors.length == 1
        && Modifier.isPublic(constructors[0].getModifiers())
        && constructors[0].getParameterCount() == 0);
    Set<String> open = new TreeSet<>();
    Set<String> names = new TreeSet<>();
    for (Method m : ProphetCover.class.getDeclaredMethods()) {
      if (!Modifier.isPrivate(m.getModifiers()) && !m.isSynthetic()) {
        open.add(signature(m));
        names.add(m.getName());
        Due.holds(m + " is public, no more", m.getModifiers() == Modifier.PUBLIC);
      }
    }
    Set<String> due = new TreeSet<>(Arrays.asList(FACE.split("\\s+(?=int |long )")));
    Due.holds("the methods of the document and no other: " + open, open.equals(due));
    for (Method m : ProphetCover.class.getDeclaredMethods()) {
      Due.holds(m + " bears no name of the face",
          !Modifier.isPrivate(m.getModifiers()) || !names.contains(m.getName()));
    }
    for (Class<?> inside : ProphetCover.class.getDeclaredClasses()) {
      for (Method m : inside.getDeclaredMethods()) {
        Due.holds(m + " bears no name of the face", !names.contains(m.getName()));
      }
    }
    Set<String> fields = new TreeSet<>();
    for (Field f : ProphetCover.class.getDeclaredFields()) {
      if (!Modifier.isPrivate(f.getModifiers())) {
        fields.add(f.getName());
        Due.holds(f + " is a constant", Modifier.isPublic(f.getModifiers())
            && Modifier.isStatic(f.getModifiers()) && Modifier.isFinal(f.getModifiers()));
      }
    }
    Due.holds("the constants of the document: " + fields, fields.equals(CONSTANTS));
  }

  private static void classes() {
    Class<?>[] inside = ProphetCover.class.getDeclaredClasses();
    Due.holds("at most twelve classes", inside.length < 12);
    for (Class<?> one : inside) {
      Due.holds(one + " is static and not public", !Modifier.isPublic(one.getModifiers())
          && !Modifier.isProtected(one.getModifiers()) && Modifier.isStatic(one.getModifiers()));
      fieldsOf(one);
    }
    fieldsOf(ProphetCover.class);
  }

  private static void fieldsOf(Class<?> one) {
    int count = 0;
    for (Field f : one.getDeclaredFields()) {
      if (Modifier.isStatic(f.getModifiers())) {
        Due.holds(f + " is final", Modifier.isFinal(f.getModifiers()));
        Due.holds(f + " is a constant", f.getType() == int.class || f.getType() == long.class);
      } else {
        count++;
      }
    }
    Due.holds(one + " has at most twenty fields", count <= 20);
  }

  /** The source with comments and the insides of texts and characters gone. */
  private static String withoutComments(String source) {
    return source.replaceAll("(?s)/\\*.*?\\*/", "").replaceAll("//[^\n]*", "")
        .replaceAll("\"[^\"\n]*\"", "\"\"").replaceAll("'[^'\n]+'", "' '");
  }

  private static void words(String code) {
    List<String> barred = List.of("\\bthrow", "\\btry\\b", "\\bcatch\\b", "\\bsynchronized\\b",
        "\\bassert\\b", "->", "::", "\\bimport\\b", "\\bpackage\\b", "\\bstatic\\s*\\{",
        "\\bdouble\\b", "\\bfloat\\b", "\\bObject\\b", "\\bequals\\b", "\\bhashCode\\b",
        "\\btoString\\b", "Exact\\b", "\\bprotected\\b", "\\bwhile\\s*\\(true", "@", "\\bvar\\b",
        "\\bThread\\b", "\\bcurrentTimeMillis\\b", "\\bnanoTime\\b", "\\bRandom\\b", "\\?\\s*>");
    for (String word : barred) {
      Due.holds("no " + word, !Pattern.compile(word).matcher(code).find());
    }
    Matcher made = Pattern.compile("(?m)^.*\\bnew\\b.*$").matcher(code);
    int count = 0;
    while (made.find()) {
      count++;
      String line = made.group().trim();
      Due.holds("made once, with the object: " + line,
          line.contains("final ") || line.matches("(sheets|prophets|readings)\\[.\\] = new .*"));
    }
    Due.holds("what is made was looked at: " + count, count == 8);
  }

  private static void methods(String code) {
    Matcher head = Pattern.compile("(?m)^( +)[a-zA-Z][^=;\n]*\\(([^()]*)\\)\\s*\\{$").matcher(code);
    int count = 0;
    while (head.find()) {
      String indent = head.group(1);
      if (head.group().trim().matches("(?s)(if|for|switch|while|else|\\}).*")) {
        continue;
      }
      count++;
      Due.holds("at most seven parameters: " + head.group().trim(),
          head.group(2).split(",").length <= 7);
      int end = code.indexOf("\n" + indent + "}", head.end());
      long lines = code.substring(head.start(), end).lines().count();
      Due.holds("short: " + head.group().trim() + ": " + lines, lines <= 60);
    }
    Due.holds("the methods were looked at: " + count, count > 60);
  }
}
