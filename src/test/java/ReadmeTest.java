import java.io.IOException;
import java.lang.reflect.InvocationTargetException;
import java.lang.reflect.Method;
import java.nio.file.Files;
import java.nio.file.Path;
import java.util.regex.Matcher;
import java.util.regex.Pattern;

/** Makes the calls that README.md shows, and holds their answers against what stands behind them. */
public final class ReadmeTest {
  private static final Pattern BLOCK = Pattern.compile("```java\n(.*?)```", Pattern.DOTALL);
  private static final Pattern CALL =
      Pattern.compile("house\\.(\\w+)\\((.*?)\\);\\s+// (throws )?(\\w+|\\.)(:.*)?");
  private static final String MAKING = "KeyWard house = new KeyWard();";

  public static void main(String[] args) throws IOException {
    Matcher block = BLOCK.matcher(Files.readString(Path.of("README.md")));
    Check.is("README.md shows calls", block.find(), true);
    KeyWard house = new KeyWard();
    int calls = 0;
    for (String line : block.group(1).split("\n")) {
      if (!line.isEmpty() && !line.equals(MAKING)) {
        test(house, line);
        calls++;
      }
    }
    Check.is("README.md shows several calls", calls > 10, true);
    Check.end();
  }

  private static void test(KeyWard house, String line) {
    Matcher call = CALL.matcher(line);
    boolean isCall = call.matches();
    Check.is("README.md: " + line + " is a call", isCall, true);
    if (isCall) {
      Check.is("README.md: " + line, answer(house, call.group(1), call.group(2)), call.group(4));
    }
  }

  private static String answer(KeyWard house, String name, String arguments) {
    for (Method method : KeyWard.class.getMethods()) {
      if (method.getName().equals(name)) {
        return answer(house, method, values(arguments));
      }
    }
    return "no such call";
  }

  private static Object[] values(String arguments) {
    String[] texts = arguments.isEmpty() ? new String[0] : arguments.split(", ");
    Object[] row = new Object[texts.length];
    for (int i = 0; i < row.length; i++) {
      boolean isTruth = texts[i].equals("true") || texts[i].equals("false");
      row[i] = isTruth ? (Object) Boolean.valueOf(texts[i]) : (Object) Integer.valueOf(texts[i]);
    }
    return row;
  }

  private static String answer(KeyWard house, Method method, Object[] row) {
    try {
      return String.valueOf(method.invoke(house, row));
    } catch (InvocationTargetException e) {
      return e.getCause().getClass().getSimpleName();
    } catch (IllegalAccessException e) {
      throw new IllegalStateException(e);
    }
  }
}
