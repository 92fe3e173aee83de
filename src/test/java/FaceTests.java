import java.io.IOException;
import java.lang.reflect.Constructor;
import java.lang.reflect.Field;
import java.lang.reflect.Method;
import java.lang.reflect.Modifier;
import java.nio.file.Files;
import java.nio.file.Path;
import java.util.Set;
import java.util.TreeSet;

/** The face is the document's and nothing more, and no private method bears a public one's name. */
public final class FaceTests {
  private static final Set<String> FACE =
      Set.of(
          "public static final int PieceCutter.NONE",
          "public PieceCutter(int,int)",
          "public boolean PieceCutter.focus(int)",
          "public boolean PieceCutter.place(int,int,int,int)",
          "public boolean PieceCutter.paint(int,int,int,int)",
          "public int PieceCutter.cut(boolean)",
          "public int PieceCutter.piece(int,int,int)",
          "public int PieceCutter.area(int)",
          "public int PieceCutter.first(int,int)",
          "public int PieceCutter.last(int,int)",
          "public int PieceCutter.near(int,int,int)",
          "public int PieceCutter.number(int,int,int,int)",
          "public int PieceCutter.covered(int,int)");

  public static void main(String[] args) throws IOException {
    Set<String> seen = new TreeSet<>();
    Set<String> publicNames = new TreeSet<>();
    for (Field f : PieceCutter.class.getDeclaredFields()) {
      if (!Modifier.isPrivate(f.getModifiers())) {
        seen.add(f.toString());
      }
    }
    for (Constructor<?> c : PieceCutter.class.getDeclaredConstructors()) {
      seen.add(c.toString());
    }
    for (Method m : PieceCutter.class.getDeclaredMethods()) {
      if (!Modifier.isPrivate(m.getModifiers())) {
        seen.add(m.toString());
        publicNames.add(m.getName());
      }
    }
    boolean good = seen.equals(FACE);
    if (!good) {
      System.out.println("the face is " + seen);
    }
    good &= isTheDocuments(seen);
    good &= noPrivateMethodNamed(PieceCutter.class, publicNames);
    for (Class<?> inside : PieceCutter.class.getDeclaredClasses()) {
      good &= noPrivateMethodNamed(inside, publicNames);
    }
    if (!Modifier.isFinal(PieceCutter.class.getModifiers())) {
      System.out.println("the class is not final");
      good = false;
    }
    System.out.println(good ? "the face is as due" : "the face is not as due");
    if (!good) {
      System.exit(1);
    }
  }

  /** Against the lines of the document's own code block, in the words that reflection uses. */
  private static boolean isTheDocuments(Set<String> seen) throws IOException {
    Set<String> written = new TreeSet<>();
    for (String line : Files.readAllLines(Path.of("..", "shared", "DOC.md"))) {
      if (line.startsWith("    public ")) {
        written.add(asReflectionTells(line.strip()));
      }
    }
    boolean good = seen.equals(written);
    if (!good) {
      System.out.println("the document's face is " + written);
    }
    return good;
  }

  private static String asReflectionTells(String line) {
    String member =
        line.replaceAll(" = .*;|;", "")
            .replaceAll("(int|boolean) \\w+(, |\\))", "$1$2")
            .replace(", ", ",");
    boolean constructor = member.startsWith("public PieceCutter(");
    return constructor ? member : member.replaceFirst("(\\w+)($|\\()", "PieceCutter.$1$2");
  }

  private static boolean noPrivateMethodNamed(Class<?> where, Set<String> names) {
    boolean good = true;
    for (Method m : where.getDeclaredMethods()) {
      if (Modifier.isPrivate(m.getModifiers()) && names.contains(m.getName())) {
        System.out.println("a public method's name: " + m);
        good = false;
      }
    }
    return good;
  }
}
