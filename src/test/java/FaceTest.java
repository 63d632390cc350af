import java.lang.reflect.Constructor;
import java.lang.reflect.Field;
import java.lang.reflect.Method;
import java.lang.reflect.Modifier;
import java.util.Arrays;
import java.util.Set;
import java.util.TreeSet;

/** The class shows the document's face and no other member. */
public final class FaceTest {
  private static final String INDEX = " throws IndexOutOfBoundsException";
  private static final String ARGUMENT = " IllegalArgumentException";
  private static final String ARITHMETIC = " ArithmeticException";

  private static final String[] METHODS = {
    "void all int" + INDEX,
    "int row int int int long" + INDEX + ARGUMENT + ARITHMETIC,
    "long bound int int int" + INDEX,
    "long kept int int int" + INDEX,
    "int meet int int int" + INDEX + ARITHMETIC,
    "int join int int int" + INDEX,
    "int widen int int int" + INDEX + ARITHMETIC,
    "int narrow int int int" + INDEX + ARITHMETIC,
    "void copy int int" + INDEX,
    "int set int int int long" + INDEX + ARGUMENT + ARITHMETIC,
    "int forget int int" + INDEX,
    "boolean within int int" + INDEX,
    "long put int long" + INDEX + ARGUMENT,
    "long point int" + INDEX,
    "boolean has int" + INDEX,
    "boolean sample int" + INDEX,
    "int needed int" + INDEX,
    "long needs int int" + INDEX,
    "boolean fits int int int" + INDEX + ARGUMENT,
    "int array int int int" + INDEX,
    "int told int" + INDEX,
  };

  public static void main(String[] args) {
    methods();
    fields();
    constructors();
    classes();
    Checks.end();
  }

  private static void methods() {
    Set<String> want = new TreeSet<>(Set.of(METHODS));
    Set<String> got = new TreeSet<>();
    Set<String> faceNames = new TreeSet<>();
    Set<String> hiddenNames = new TreeSet<>();
    for (Method m : LinearRows.class.getDeclaredMethods()) {
      if (Modifier.isPrivate(m.getModifiers()) || m.isSynthetic()) {
        hiddenNames.add(m.getName());
      } else {
        got.add(written(m));
        faceNames.add(m.getName());
        Checks.due("public " + m.getName(), true, Modifier.isPublic(m.getModifiers()));
        Checks.due("static " + m.getName(), false, Modifier.isStatic(m.getModifiers()));
      }
    }
    if (!want.equals(got)) {
      Checks.report("methods of the face: " + got + ", due are " + want);
    }
    hiddenNames.retainAll(faceNames);
    if (!hiddenNames.isEmpty()) {
      Checks.report("private methods with names of the face: " + hiddenNames);
    }
  }

  private static String written(Method m) {
    StringBuilder text = new StringBuilder(m.getReturnType().getSimpleName() + " " + m.getName());
    for (Class<?> type : m.getParameterTypes()) {
      text.append(' ').append(type.getSimpleName());
    }
    text.append(" throws");
    for (Class<?> type : m.getExceptionTypes()) {
      text.append(' ').append(type.getSimpleName());
    }
    return text.toString();
  }

  private static void fields() {
    int seen = 0;
    for (Field f : LinearRows.class.getDeclaredFields()) {
      if (!Modifier.isPrivate(f.getModifiers())) {
        seen++;
        Checks.due("only ENDLESS is seen, not " + f.getName(), true, f.getName().equals("ENDLESS"));
        Checks.due("public " + f.getName(), true, Modifier.isPublic(f.getModifiers()));
        Checks.due("static " + f.getName(), true, Modifier.isStatic(f.getModifiers()));
      }
      if (Modifier.isStatic(f.getModifiers())) {
        Checks.due("final static " + f.getName(), true, Modifier.isFinal(f.getModifiers()));
      }
    }
    Checks.due("constants", 1, seen);
    Checks.due("ENDLESS", 1L << 62, LinearRows.ENDLESS);
  }

  private static void constructors() {
    int seen = 0;
    for (Constructor<?> c : LinearRows.class.getDeclaredConstructors()) {
      if (!Modifier.isPrivate(c.getModifiers())) {
        seen++;
        Checks.due("public constructor", true, Modifier.isPublic(c.getModifiers()));
        Checks.due("constructor of an int", true, Arrays.equals(c.getParameterTypes(), new Class<?>[] {int.class}));
        Checks.due("constructor's exceptions", 0, c.getExceptionTypes().length);
      }
    }
    Checks.due("constructors", 1, seen);
  }

  private static void classes() {
    Checks.due("public class", true, Modifier.isPublic(LinearRows.class.getModifiers()));
    Checks.due("final class", true, Modifier.isFinal(LinearRows.class.getModifiers()));
    for (Class<?> inside : LinearRows.class.getDeclaredClasses()) {
      int seen = inside.getModifiers() & (Modifier.PUBLIC | Modifier.PROTECTED);
      Checks.due("class inside that is seen outside: " + inside.getName(), 0, seen);
    }
  }
}
