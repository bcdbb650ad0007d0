import java.lang.reflect.InvocationTargetException;
import java.lang.reflect.Method;
import java.lang.reflect.Modifier;
import java.util.HashMap;
import java.util.Map;

/** A house and a plain house that get the same calls. */
final class Pair {
  private static final Map<String, Method> OURS = publicMethods(KeyWard.class);
  private static final Map<String, Method> THEIRS = publicMethods(PlainHouse.class);

  final PlainHouse plain = new PlainHouse();
  private final KeyWard house = new KeyWard();
  private int calls;
  private String got = "";
  private String due = "";

  /** Whether both answered the same; an exception is told by its name. */
  boolean call(String name, Object... arguments) {
    calls++;
    due = answer(THEIRS.get(name), plain, arguments);
    got = answer(OURS.get(name), house, arguments);
    return due.equals(got);
  }

  int calls() {
    return calls;
  }

  String got() {
    return got;
  }

  String due() {
    return due;
  }

  boolean hasThrown() {
    return due.endsWith("Exception");
  }

  private static String answer(Method method, Object on, Object[] arguments) {
    try {
      return String.valueOf(method.invoke(on, arguments));
    } catch (InvocationTargetException e) {
      return e.getCause().getClass().getName();
    } catch (IllegalAccessException e) {
      throw new IllegalStateException(e);
    }
  }

  private static Map<String, Method> publicMethods(Class<?> type) {
    Map<String, Method> methods = new HashMap<>();
    for (Method method : type.getDeclaredMethods()) {
      if (Modifier.isPublic(method.getModifiers())) {
        methods.put(method.getName(), method);
      }
    }
    return methods;
  }
}
