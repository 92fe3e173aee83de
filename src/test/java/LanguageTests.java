import java.io.IOException;
import java.lang.reflect.Executable;
import java.lang.reflect.Field;
import java.lang.reflect.Modifier;
import java.nio.file.Files;
import java.nio.file.Path;
import java.util.ArrayList;
import java.util.List;
import java.util.Set;
import java.util.regex.Matcher;
import java.util.regex.Pattern;

/** The rules of LANGUAGE.md that can be read off the class or its text. */
public final class LanguageTests {
  private static final Path PROGRAM = Path.of("src", "main", "java", "PieceCutter.java");
  private static final int MOST_CLASSES = 12;
  private static final int MOST_FIELDS = 20;
  private static final int MOST_PARAMETERS = 7;
  private static final int MOST_LINES = 60;
  private static final Set<Class<?>> CONSTANTS =
      Set.of(int.class, long.class, boolean.class, char.class, String.class);
  private static int wrong = 0;

  public static void main(String[] args) throws IOException {
    List<Class<?>> classes = new ArrayList<>(List.of(PieceCutter.class.getDeclaredClasses()));
    for (Class<?> inside : classes) {
      classInside(inside);
    }
    classes.add(PieceCutter.class);
    due("the class is public and final", isPublicAndFinal());
    due("few classes", classes.size() <= MOST_CLASSES);
    for (Class<?> one : classes) {
      fields(one);
      parameters(one);
    }
    String text = Files.readString(PROGRAM);
    forbiddenWords(withoutComments(text));
    namesOfTheLibrary(withoutComments(text));
    linesOfMethods(text.split("\n"));
    System.out.println(wrong == 0 ? "all rules are kept" : wrong + " rules are not kept");
    if (wrong != 0) {
      System.exit(1);
    }
  }

  private static void due(String what, boolean holds) {
    if (!holds) {
      wrong++;
      System.out.println("does not hold: " + what);
    }
  }

  private static boolean isPublicAndFinal() {
    int modifiers = PieceCutter.class.getModifiers();
    return Modifier.isPublic(modifiers) && Modifier.isFinal(modifiers);
  }

  /** Rules 1 and 2. */
  private static void classInside(Class<?> inside) {
    int modifiers = inside.getModifiers();
    due("rule 1: static: " + inside, Modifier.isStatic(modifiers));
    due("rule 1: not public: " + inside, !Modifier.isPublic(modifiers));
    due("rule 1: not protected: " + inside, !Modifier.isProtected(modifiers));
    due("rule 11: no class inside it: " + inside, inside.getDeclaredClasses().length == 0);
  }

  /** Rules 3, 5 and 11. */
  private static void fields(Class<?> one) {
    int count = 0;
    for (Field f : one.getDeclaredFields()) {
      if (Modifier.isStatic(f.getModifiers())) {
        due("rule 5: final: " + f, Modifier.isFinal(f.getModifiers()));
        due("rule 5: a constant's type: " + f, CONSTANTS.contains(f.getType()));
      } else {
        count++;
        due("rule 3: a number, a row of them or an own class: " + f, isOwn(f.getType()));
      }
    }
    due("rule 11: few fields: " + one, count <= MOST_FIELDS);
  }

  private static boolean isOwn(Class<?> type) {
    Class<?> part = type.isArray() ? type.getComponentType() : type;
    return part.isPrimitive() || part.getNestHost() == PieceCutter.class;
  }

  /** Rule 11. */
  private static void parameters(Class<?> one) {
    List<Executable> all = new ArrayList<>(List.of(one.getDeclaredMethods()));
    all.addAll(List.of(one.getDeclaredConstructors()));
    for (Executable e : all) {
      due("rule 11: few parameters: " + e, e.getParameterCount() <= MOST_PARAMETERS);
      due("rule 6: throws nothing: " + e, e.getExceptionTypes().length == 0);
    }
  }

  private static String withoutComments(String text) {
    return text.replaceAll("(?s)/\\*.*?\\*/", "").replaceAll("//[^\n]*", "");
  }

  /** Rules 2, 4, 5, 6 and 13; no throw at all, for the document names no exception. */
  private static void forbiddenWords(String code) {
    String words =
        "package|import|throw|throws|try|catch|finally|synchronized|assert|equals|hashCode|toString"
            + "|protected|native|volatile|transient|double|float";
    due("none of " + words, !Pattern.compile("\\b(" + words + ")\\b").matcher(code).find());
    due("rule 2: no lambda, no method reference", !code.contains("->") && !code.contains("::"));
    due("rule 4: nothing that ends in Exact", !code.contains("Exact"));
    due("rule 5: no static block", !Pattern.compile("\\bstatic\\s*\\{").matcher(code).find());
    // Rule 7: what divides stands in one place, behind the test of its divisor.
    due("rule 7: no / and no %", !code.contains("/") && !code.contains("%"));
    due("rule 7: one floorDiv", code.split("floorDiv", -1).length == 2);
    due("rule 7: its divisor is tested", code.contains("b == 0 ? 0 : Math.floorDiv(a, b)"));
  }

  /** Rule 4: of the library, Math alone. */
  private static void namesOfTheLibrary(String code) {
    Matcher names = Pattern.compile("\\b([A-Z]\\w*[a-z]\\w*)\\b").matcher(code);
    Set<String> known = Set.of("PieceCutter", "Ring", "Fan", "Math");
    while (names.find()) {
      due("rule 4: known: " + names.group(1), known.contains(names.group(1)));
    }
  }

  /** Rule 11: from a line that opens a method to the one that closes it, as far to the right. */
  private static void linesOfMethods(String[] lines) {
    Pattern opens = Pattern.compile("( {2}| {4})(public|private) [^=]*\\(.*\\) \\{");
    int methods = 0;
    for (int from = 0; from < lines.length; from++) {
      Matcher opening = opens.matcher(lines[from]);
      if (opening.matches()) {
        methods++;
        int to = from;
        while (to < lines.length && !lines[to].equals(opening.group(1) + "}")) {
          to++;
        }
        due("rule 11: short: " + lines[from].strip(), to - from < MOST_LINES);
      }
    }
    int there = PieceCutter.class.getDeclaredMethods().length + 1;
    for (Class<?> inside : PieceCutter.class.getDeclaredClasses()) {
      there += inside.getDeclaredMethods().length;
    }
    due("methods found: " + methods + " of " + there, methods == there);
  }
}
