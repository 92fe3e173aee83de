import java.io.IOException;
import java.lang.reflect.Method;
import java.nio.file.Files;
import java.nio.file.Path;
import java.util.List;
import java.util.Set;
import java.util.TreeSet;
import java.util.regex.Matcher;
import java.util.regex.Pattern;

/** README.md tells each call in the document's words, and what it shows as answers is answered. */
public final class ReadmeTests {
  private static final Path README = Path.of("README.md");
  private static final Path DOCUMENT = Path.of("..", "shared", "DOC.md");
  private static final int PROMISES = 12;
  private static final Pattern MADE =
      Pattern.compile("PieceCutter cutter = new PieceCutter\\((\\d+), (\\d+)\\);");
  private static final Pattern CALL =
      Pattern.compile("cutter\\.(\\w+)\\(([^)]*)\\); +// (-?\\d+|true|false|NONE)(:.*)?");
  private static int wrong = 0;

  public static void main(String[] args) throws IOException, ReflectiveOperationException {
    wordsOfTheDocument();
    answersShown();
    System.out.println(wrong == 0 ? "all answers are as due" : wrong + " things are not as due");
    if (wrong != 0) {
      System.exit(1);
    }
  }

  private static void due(String what, boolean holds) {
    if (!holds) {
      wrong++;
      System.out.println(what);
    }
  }

  /** Lines are broken elsewhere than in the document. */
  private static String onOneLine(String text) {
    return text.replaceAll("\\s+", " ");
  }

  private static void wordsOfTheDocument() throws IOException {
    String readme = onOneLine(Files.readString(README));
    int promises = 0;
    boolean heading = false;
    for (String line : Files.readAllLines(DOCUMENT)) {
      if (line.startsWith("## Promise ")) {
        heading = true;
      } else if (heading && !line.isBlank()) {
        heading = false;
        promises++;
        due("README.md does not say: " + line, readme.contains(onOneLine(line.strip())));
      }
    }
    due("promises found in the document: " + promises, promises == PROMISES);
    due("README.md does not say how the tests are run", readme.contains(".ci/run"));
  }

  private static void answersShown() throws IOException, ReflectiveOperationException {
    Set<String> shown = new TreeSet<>();
    PieceCutter cutter = null;
    boolean code = false;
    for (String line : Files.readAllLines(README)) {
      Matcher made = MADE.matcher(line);
      Matcher call = CALL.matcher(line);
      if (line.startsWith("```")) {
        code = line.equals("```java");
        cutter = null;
      } else if (code && made.matches()) {
        cutter = new PieceCutter(number(made.group(1)), number(made.group(2)));
      } else if (code && call.matches() && cutter != null) {
        shown.add(call.group(1));
        String want = call.group(3).equals("NONE") ? "-1" : call.group(3);
        String got = answer(cutter, call.group(1), call.group(2));
        due(line.strip() + " answered " + got, got.equals(want));
      } else if (code) {
        due("not a call with its answer: " + line, line.isBlank());
      }
    }
    Set<String> all = new TreeSet<>(List.of("focus", "place", "paint", "cut", "piece", "area"));
    all.addAll(List.of("first", "last", "near", "number", "covered"));
    due("calls shown are " + shown, shown.equals(all));
  }

  private static int number(String text) {
    return Integer.parseInt(text);
  }

  private static String answer(PieceCutter cutter, String name, String list)
      throws ReflectiveOperationException {
    String[] texts = list.split(", ");
    Class<?>[] types = new Class<?>[texts.length];
    Object[] values = new Object[texts.length];
    for (int n = 0; n < texts.length; n++) {
      boolean truth = texts[n].equals("true") || texts[n].equals("false");
      types[n] = truth ? boolean.class : int.class;
      values[n] = truth ? (Object) Boolean.valueOf(texts[n]) : (Object) number(texts[n]);
    }
    Method method = PieceCutter.class.getMethod(name, types);
    return String.valueOf(method.invoke(cutter, values));
  }
}
