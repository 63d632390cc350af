import java.lang.reflect.Constructor;
import java.lang.reflect.Field;
import java.lang.reflect.Method;
import java.lang.reflect.Modifier;
import java.util.Set;
import java.util.TreeSet;

/** The class shows the document's face and no other member. */
public final class FaceTest {
  private static final String INDEX = " throws IndexOutOfBoundsException";
  private static final String ARGUMENT = " IllegalArgumentException";
  private static final String ARITHMETIC = " ArithmeticException";

  private static final String[] METHODS = {
    "void all int" + INDEX,
    "int row int int int long" + INDEX + ARGUMENT + ARITHMETIC,
    "long bound int int int" + INDEX,
    "long kept int int int" + INDEX,
    "int meet int int int" + INDEX + ARITHMETIC,
    "int join int int int" + INDEX,
    "int widen int int int" + INDEX + ARITHMETIC,
    "int narrow int int int" + INDEX + ARITHMETIC,
    "void copy int int" + INDEX,
    "int set int int int long" + INDEX + ARGUMENT + ARITHMETIC,
    "int forget int int" + INDEX,
    "boolean within int int" + INDEX,
    "long put int long" + INDEX + ARGUMENT,
    "long point int" + INDEX,
    "boolean has int" + INDEX,
    "boolean sample int" + INDEX,
    "int needed int" + INDEX,
    "long needs int int" + INDEX,
    "boolean fits int int int" + INDEX + ARGUMENT,
    "int array int int int" + INDEX,
    "int told int" + INDEX,
  };

  public static void main(String[] args) {
    Set<String> want = new TreeSet<>(Set.of(METHODS));
    Set<String> got = new TreeSet<>();
    Set<String> faceNames = new TreeSet<>();
    Set<String> hiddenNames = new TreeSet<>();
    for (Method m : LinearRows.class.getDeclaredMethods()) {
      if (Modifier.isPrivate(m.getModifiers()) || m.isSynthetic()) {
        hiddenNames.add(m.getName());
      } else {
        got.add(written(m));
        faceNames.add(m.getName());
      }
    }
    if (!want.equals(got)) {
      Checks.report("methods of the face: " + got + ", due are " + want);
    }
    hiddenNames.retainAll(faceNames);
    if (!hiddenNames.isEmpty()) {
      Checks.report("private methods with names of the face: " + hiddenNames);
    }
    fieldsAndConstructors();
    Checks.due("ENDLESS", 1L << 62, LinearRows.ENDLESS);
    Checks.due("final class", true, Modifier.isFinal(LinearRows.class.getModifiers()));
    Checks.end();
  }

  private static String written(Method m) {
    StringBuilder text = new StringBuilder(m.getReturnType().getSimpleName() + " " + m.getName());
    for (Class<?> type : m.getParameterTypes()) {
      text.append(' ').append(type.getSimpleName());
    }
    text.append(" throws");
    for (Class<?> type : m.getExceptionTypes()) {
      text.append(' ').append(type.getSimpleName());
    }
    return text.toString();
  }

  private static void fieldsAndConstructors() {
    int seen = 0;
    for (Field f : LinearRows.class.getDeclaredFields()) {
      if (!Modifier.isPrivate(f.getModifiers())) {
        seen++;
        Checks.due("only ENDLESS is seen, not " + f.getName(), true, f.getName().equals("ENDLESS"));
      }
      if (Modifier.isStatic(f.getModifiers())) {
        Checks.due("final static " + f.getName(), true, Modifier.isFinal(f.getModifiers()));
      }
    }
    Checks.due("constants", 1, seen);
    Constructor<?>[] all = LinearRows.class.getDeclaredConstructors();
    Checks.due("constructors", 1, all.length);
    Checks.due("public constructor", true, Modifier.isPublic(all[0].getModifiers()));
    Checks.due("constructor's parameters", 1, all[0].getParameterCount());
  }
}
