import java.lang.reflect.Constructor;
import java.lang.reflect.Field;
import java.lang.reflect.Method;
import java.lang.reflect.Modifier;
import java.util.Set;
import java.util.TreeSet;

/** The face is the document's and nothing more, and no private method bears a public one's name. */
public final class FaceTests {
  private static final Set<String> FACE =
      Set.of(
          "public static final int PieceCutter.NONE",
          "public PieceCutter(int,int)",
          "public boolean PieceCutter.focus(int)",
          "public boolean PieceCutter.place(int,int,int,int)",
          "public boolean PieceCutter.paint(int,int,int,int)",
          "public int PieceCutter.cut(boolean)",
          "public int PieceCutter.piece(int,int,int)",
          "public int PieceCutter.area(int)",
          "public int PieceCutter.first(int,int)",
          "public int PieceCutter.last(int,int)",
          "public int PieceCutter.near(int,int,int)",
          "public int PieceCutter.number(int,int,int,int)",
          "public int PieceCutter.covered(int,int)");

  public static void main(String[] args) {
    Set<String> seen = new TreeSet<>();
    Set<String> publicNames = new TreeSet<>();
    for (Field f : PieceCutter.class.getDeclaredFields()) {
      if (!Modifier.isPrivate(f.getModifiers())) {
        seen.add(f.toString());
      }
    }
    for (Constructor<?> c : PieceCutter.class.getDeclaredConstructors()) {
      seen.add(c.toString());
    }
    for (Method m : PieceCutter.class.getDeclaredMethods()) {
      if (!Modifier.isPrivate(m.getModifiers())) {
        seen.add(m.toString());
        publicNames.add(m.getName());
      }
    }
    boolean good = seen.equals(FACE);
    if (!good) {
      System.out.println("the face is " + seen);
    }
    good &= noPrivateMethodNamed(PieceCutter.class, publicNames);
    for (Class<?> inside : PieceCutter.class.getDeclaredClasses()) {
      good &= noPrivateMethodNamed(inside, publicNames);
    }
    if (!Modifier.isFinal(PieceCutter.class.getModifiers())) {
      System.out.println("the class is not final");
      good = false;
    }
    System.out.println(good ? "the face is as due" : "the face is not as due");
    if (!good) {
      System.exit(1);
    }
  }

  private static boolean noPrivateMethodNamed(Class<?> where, Set<String> names) {
    boolean good = true;
    for (Method m : where.getDeclaredMethods()) {
      if (Modifier.isPrivate(m.getModifiers()) && names.contains(m.getName())) {
        System.out.println("a public method's name: " + m);
        good = false;
      }
    }
    return good;
  }
}
