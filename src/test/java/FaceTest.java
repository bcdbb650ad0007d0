import java.lang.reflect.Constructor;
import java.lang.reflect.Field;
import java.lang.reflect.Method;
import java.lang.reflect.Modifier;
import java.util.Arrays;
import java.util.Set;
import java.util.TreeSet;
import java.util.stream.Collectors;

/** The public face as the document tells it, and nothing else that could be reached from outside. */
public final class FaceTest {
  private static final String FACE =
      """
          int machine(int chambers, int depths, int apart) throws IllegalArgumentException, UnsupportedOperationException
          int cut(int depth) throws IllegalArgumentException, IllegalStateException
          int forget()
          int addKey() throws IllegalArgumentException, UnsupportedOperationException, IllegalStateException
          int depthOf(int key, int chamber) throws IndexOutOfBoundsException
          int addDoor() throws IllegalStateException
          int wish(int door, int key, boolean is) throws IndexOutOfBoundsException, UnsupportedOperationException
          boolean isWished(int door, int key) throws IndexOutOfBoundsException
          int pins(int door, int chamber) throws IndexOutOfBoundsException
          boolean opens(int door, int key) throws IndexOutOfBoundsException
          int strays(int door) throws IndexOutOfBoundsException
          int admits(int door) throws IndexOutOfBoundsException
          int find(int doors) throws IllegalArgumentException, NoSuchElementException, IllegalStateException
          int lose(int key) throws IndexOutOfBoundsException, UnsupportedOperationException
          int unsafe()
          int replace(int key) throws IndexOutOfBoundsException, UnsupportedOperationException, NoSuchElementException, IllegalStateException
          int setBlank(int profile) throws IllegalArgumentException
          int profileOf(int key) throws IndexOutOfBoundsException
          int setWard(int door, int ward) throws IndexOutOfBoundsException, IllegalArgumentException, UnsupportedOperationException
          boolean setThin(boolean are)
          int thin(int door) throws IndexOutOfBoundsException
          int pinsNeeded()
          int both(int first, int step, int depths, int apart) throws IllegalArgumentException
          int below(int master, int held) throws IndexOutOfBoundsException, IllegalArgumentException
          int belowAt(int master, int held, int number, int chamber) throws IndexOutOfBoundsException, IllegalArgumentException, NoSuchElementException
          int cutBelow(int master, int held, int number, int door) throws IndexOutOfBoundsException, IllegalArgumentException, NoSuchElementException, UnsupportedOperationException, IllegalStateException
          int addRule(int keys, int doors, boolean is) throws IllegalArgumentException, IllegalStateException
          int applyRules()
          int keepBlock() throws IllegalArgumentException, UnsupportedOperationException, IllegalStateException
          int findIn(int block, int doors) throws IndexOutOfBoundsException, IllegalArgumentException, NoSuchElementException, IllegalStateException
          int setBuilding(int door, int key) throws IndexOutOfBoundsException, UnsupportedOperationException
          boolean use(int door, int key) throws IndexOutOfBoundsException
          int setControl(int key) throws IndexOutOfBoundsException, UnsupportedOperationException
          int exchange(int door, int other, int key) throws IndexOutOfBoundsException, IllegalArgumentException, UnsupportedOperationException
          int planDays(int limit) throws IllegalArgumentException
          int planAt(int limit, int day, int place) throws IllegalArgumentException, NoSuchElementException
          int ring(int key, int other) throws IndexOutOfBoundsException, IllegalArgumentException, UnsupportedOperationException
          int setDeputy(int person, int deputy) throws IndexOutOfBoundsException, IllegalArgumentException
          boolean setAway(int person, boolean is) throws IndexOutOfBoundsException
          int setGuard(int person, int guard) throws IndexOutOfBoundsException, IllegalArgumentException
          int addPerson() throws IllegalStateException
          int lend(int key, int person, int hours) throws IndexOutOfBoundsException, IllegalArgumentException, UnsupportedOperationException
          int bring(int key) throws IndexOutOfBoundsException, UnsupportedOperationException
          int holder(int key) throws IndexOutOfBoundsException, NoSuchElementException
          int late()
          int pass(int hours) throws IllegalArgumentException
          int addGate(int from, int to) throws IllegalArgumentException, IllegalStateException
          int lockAgainst(int gate, int other) throws IndexOutOfBoundsException, IllegalArgumentException
          int addCard(int person) throws IndexOutOfBoundsException, IllegalStateException
          int allow(int card, int gate, boolean is) throws IndexOutOfBoundsException
          int bar(int card, boolean is) throws IndexOutOfBoundsException
          int load(int card) throws IndexOutOfBoundsException, UnsupportedOperationException
          char tryCard(int gate, int card) throws IndexOutOfBoundsException
          int goOut(int gate, int person) throws IndexOutOfBoundsException, UnsupportedOperationException
          boolean shut(int gate) throws IndexOutOfBoundsException
          int zoneOf(int person) throws IndexOutOfBoundsException
          int barredAt(int gate) throws IndexOutOfBoundsException
          long checksum()
          float cleanShare() throws ArithmeticException
          double meanWished() throws ArithmeticException
          boolean isSound()
      """;

  public static void main(String[] args) {
    Set<String> due =
        FACE.strip().lines().map(FaceTest::withoutNames).collect(Collectors.toCollection(TreeSet::new));
    Set<String> got = new TreeSet<>();
    for (Method method : KeyWard.class.getDeclaredMethods()) {
      if (!Modifier.isPrivate(method.getModifiers()) && !method.isSynthetic()) {
        Check.is(method.getName() + " is public and not static", method.getModifiers(), Modifier.PUBLIC);
        got.add(told(method));
      }
    }
    Check.is("the face", String.join("\n", got), String.join("\n", due));
    Check.is("the number of calls", got.size(), 61);
    Check.is("the class is public and final", KeyWard.class.getModifiers(), Modifier.PUBLIC | Modifier.FINAL);
    Constructor<?>[] constructors = KeyWard.class.getDeclaredConstructors();
    Check.is("constructors", constructors.length, 1);
    Check.is("the constructor", constructors[0].toString(), "public KeyWard()");
    for (Field field : KeyWard.class.getDeclaredFields()) {
      Check.is(field.getName() + " is private", Modifier.isPrivate(field.getModifiers()), true);
    }
    noPrivateNamesakes();
    Check.end();
  }

  private static void noPrivateNamesakes() {
    Set<String> names =
        Arrays.stream(KeyWard.class.getMethods())
            .filter(m -> m.getDeclaringClass() == KeyWard.class)
            .map(Method::getName)
            .collect(Collectors.toSet());
    for (Method method : KeyWard.class.getDeclaredMethods()) {
      boolean isNamesake = Modifier.isPrivate(method.getModifiers()) && names.contains(method.getName());
      Check.is(method.getName() + " is the name of a private and a public method", isNamesake, false);
    }
  }

  private static String told(Method method) {
    String exceptions =
        Arrays.stream(method.getExceptionTypes()).map(Class::getSimpleName).collect(Collectors.joining(", "));
    String parameters =
        Arrays.stream(method.getParameterTypes()).map(Class::getName).collect(Collectors.joining(", "));
    return method.getReturnType().getName() + " " + method.getName() + "(" + parameters + ")"
        + (exceptions.isEmpty() ? "" : " throws " + exceptions);
  }

  private static String withoutNames(String row) {
    return row.strip().replaceAll("(int|boolean) [a-z]+([,)])", "$1$2");
  }
}
