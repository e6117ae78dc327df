import java.lang.reflect.Method;
import java.nio.file.Files;
import java.nio.file.Path;
import java.util.regex.Matcher;
import java.util.regex.Pattern;

/** The example in README.md: each of its calls is made, the answer is due that stands behind the last colon of its row. */
public final class ReadmeTest {
  private static final Pattern ROW = Pattern.compile("x\\.(\\w+)\\((.*)\\); +// .*: (\\S+)");
  private static final Due DUE = new Due();

  public static void main(String[] args) throws Exception {
    String readme = Files.readString(Path.of("README.md"));
    int calls = 0;
    CarryNets x = new CarryNets();
    for (String row : example(readme)) {
      Matcher call = ROW.matcher(row);
      if (call.matches()) {
        DUE.is(row, answer(x, call.group(1), call.group(2)), Long.decode(call.group(3)));
        calls++;
      }
    }
    // All rows but the one that makes the object are calls with their answers.
    DUE.is("rows of the example that are calls", calls, example(readme).length - 1);
    DUE.is("there are some", calls > 1 ? 1 : 0, 1);
    for (Method method : CarryNets.class.getMethods()) {
      boolean own = method.getDeclaringClass() == CarryNets.class;
      DUE.is(method.getName() + " is told of", !own || readme.contains("`" + method.getName() + "`") ? 1 : 0, 1);
    }
    DUE.close();
  }

  private static String[] example(String readme) {
    String begin = "```java\n";
    int from = readme.indexOf(begin) + begin.length();
    return readme.substring(from, readme.indexOf("\n```", from)).split("\n");
  }

  private static long answer(CarryNets x, String name, String told) throws Exception {
    String[] parts = told.isEmpty() ? new String[0] : told.split(", ");
    for (Method method : CarryNets.class.getMethods()) {
      if (method.getName().equals(name) && method.getParameterCount() == parts.length) {
        Object[] values = new Object[parts.length];
        for (int p = 0; p < parts.length; p++) {
          values[p] = value(parts[p], method.getParameterTypes()[p]);
        }
        return ((Number) method.invoke(x, values)).longValue();
      }
    }
    throw new IllegalArgumentException("no such call: " + name);
  }

  private static Object value(String part, Class<?> type) {
    if (type == boolean.class) {
      return part.equals("true");
    }
    if (part.equals("CarryNets.NONE")) {
      return CarryNets.NONE;
    }
    long value = Long.decode(part.replace("L", ""));
    if (type == long.class) {
      return value;
    }
    return (int) value;
  }
}
