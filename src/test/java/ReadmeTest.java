import java.io.IOException;
import java.lang.reflect.Method;
import java.nio.file.Files;
import java.nio.file.Path;
import java.util.regex.Matcher;
import java.util.regex.Pattern;

/** The calls of README.md's example, line by line, answer what is written behind them. */
public final class ReadmeTest {
  private static final Pattern MADE = Pattern.compile("LinearRows r = new LinearRows\\((\\d+)\\);.*");
  private static final Pattern CALL = Pattern.compile("r\\.(\\w+)\\(([^)]*)\\); +// (-?\\w+): .*");

  public static void main(String[] args) throws IOException, ReflectiveOperationException {
    LinearRows r = null;
    int calls = 0;
    for (String line : Files.readAllLines(Path.of("README.md"))) {
      Matcher made = MADE.matcher(line);
      Matcher call = CALL.matcher(line);
      if (made.matches()) {
        r = new LinearRows(Integer.parseInt(made.group(1)));
      } else if (r != null && call.matches()) {
        calls++;
        String got = String.valueOf(answer(r, call.group(1), call.group(2).split(", *")));
        if (!got.equals(call.group(3))) {
          Checks.report(line + " answered " + got);
        }
      } else if (line.startsWith("r.")) {
        Checks.report("not understood: " + line);
      }
    }
    Checks.due("the example has calls", true, calls > 0);
    Checks.end();
  }

  private static Object answer(LinearRows r, String name, String[] given) throws ReflectiveOperationException {
    for (Method m : LinearRows.class.getMethods()) {
      if (m.getName().equals(name)) {
        Object[] values = new Object[given.length];
        for (int k = 0; k < given.length; k++) {
          boolean isLong = m.getParameterTypes()[k] == long.class;
          values[k] = isLong ? (Object) Long.valueOf(given[k]) : (Object) Integer.valueOf(given[k]);
        }
        return m.invoke(r, values);
      }
    }
    throw new IllegalArgumentException("no call " + name);
  }
}
