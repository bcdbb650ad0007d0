import java.util.ArrayList;
import java.util.Arrays;
import java.util.List;

/**
 * Makes up runs of calls, always the same ones, and holds the answers of the class against those of
 * the plain house. A call that throws changes nothing in the plain house, so if it changed something
 * in the class, a later answer differs.
 */
public final class ModelTest {
  private static final int RUNS = 600;
  private static final int CALLS = 512;
  private static final int MOST_SHOWN = 20;
  private static final int[] FAR = {
    Integer.MIN_VALUE, Integer.MIN_VALUE + 1, -1000, -32, 31, 32, 33, 64, 1 << 16, Integer.MAX_VALUE
  };

  /** A call, what its arguments are, and how often it comes. */
  private record Kind(String name, String arguments, int weight) {}

  private static final List<Kind> KINDS =
      List.of(
          new Kind("machine", "mnm", 1),
          new Kind("cut", "e", 60),
          new Kind("forget", "", 1),
          new Kind("addKey", "", 18),
          new Kind("depthOf", "kc", 8),
          new Kind("addDoor", "", 5),
          new Kind("wish", "dkb", 30),
          new Kind("isWished", "dk", 8),
          new Kind("pins", "dc", 8),
          new Kind("opens", "dk", 10),
          new Kind("strays", "d", 8),
          new Kind("admits", "d", 8),
          new Kind("find", "D", 10),
          new Kind("lose", "k", 5),
          new Kind("unsafe", "", 4),
          new Kind("replace", "k", 8),
          new Kind("setBlank", "w", 3),
          new Kind("profileOf", "k", 4),
          new Kind("setWard", "dw", 4),
          new Kind("setThin", "b", 3),
          new Kind("thin", "d", 5),
          new Kind("pinsNeeded", "", 5),
          new Kind("both", "esno", 8),
          new Kind("below", "kh", 6),
          new Kind("belowAt", "khnc", 10),
          new Kind("cutBelow", "khnd", 8),
          new Kind("addRule", "KRb", 3),
          new Kind("applyRules", "", 2),
          new Kind("keepBlock", "", 3),
          new Kind("findIn", "BD", 6),
          new Kind("setBuilding", "dk", 5),
          new Kind("use", "dk", 8),
          new Kind("setControl", "k", 8),
          new Kind("exchange", "ddk", 8),
          new Kind("planDays", "l", 5),
          new Kind("planAt", "loo", 12),
          new Kind("ring", "kk", 4),
          new Kind("setDeputy", "pq", 5),
          new Kind("setAway", "pb", 5),
          new Kind("setGuard", "pq", 3),
          new Kind("addPerson", "", 4),
          new Kind("lend", "kpH", 12),
          new Kind("bring", "k", 6),
          new Kind("holder", "k", 6),
          new Kind("late", "", 5),
          new Kind("pass", "H", 4),
          new Kind("addGate", "zy", 6),
          new Kind("lockAgainst", "gg", 3),
          new Kind("addCard", "p", 6),
          new Kind("allow", "rga", 20),
          new Kind("bar", "rb", 2),
          new Kind("load", "r", 14),
          new Kind("tryCard", "gr", 40),
          new Kind("goOut", "gp", 20),
          new Kind("shut", "g", 12),
          new Kind("zoneOf", "p", 6),
          new Kind("barredAt", "g", 5),
          new Kind("checksum", "", 3),
          new Kind("cleanShare", "", 3),
          new Kind("meanWished", "", 3),
          new Kind("isSound", "", 2));

  /** What is called again and again in a run at gates, and in a run that searches. */
  private static final List<String> AT_GATES =
      List.of(
          "allow", "allow", "allow", "allow", "load", "load", "load", "tryCard", "tryCard",
          "tryCard", "tryCard", "tryCard", "shut", "shut", "shut", "zoneOf", "goOut", "goOut",
          "setGuard", "barredAt");

  private static final List<String> SEARCHING =
      List.of(
          "find", "findIn", "findIn", "replace", "replace", "strays", "admits", "thin", "depthOf",
          "depthOf", "opens", "isWished", "checksum", "planAt", "exchange", "cut", "keepBlock",
          "setControl", "use", "unsafe", "lose");

  private long seed;
  private int wrong;
  private int total;
  private Pair pair;

  public static void main(String[] args) {
    ModelTest test = new ModelTest();
    for (Kind kind : KINDS) {
      test.total += kind.weight;
    }
    for (int run = 0; run < RUNS && test.wrong < MOST_SHOWN; run++) {
      test.run(run);
    }
    System.exit(test.wrong > 0 ? 1 : 0);
  }

  private void run(int run) {
    seed = run * 7919L + 17;
    pair = new Pair();
    List<String> told = new ArrayList<>();
    boolean same = true;
    int before = wrong;
    if (run % 4 != 0) {
      same = call(run, kindNamed("machine"), new Object[] {3 + below(run % 10 == 1 ? 4 : 2), 2 + below(5), 1 + below(5)}, told);
    }
    for (int i = 0; i < CALLS - 1 && same; i++) {
      int which = i < 40 ? early() : flavoured(run);
      same = call(run, which, arguments(KINDS.get(which)), told);
    }
    if (wrong > before) {
      System.out.println("  ahead of it: " + String.join(", ", told));
    }
  }

  private int early() {
    String[] names = {"addDoor", "addPerson", "cut", "cut", "cut", "addKey", "addGate", "addCard", "find", "find", "find"};
    return kindNamed(names[below(names.length)]);
  }

  /** Some runs keep to few calls for the most part, so that they come to what is rare. */
  private int flavoured(int run) {
    List<String> names = run % 3 == 0 ? AT_GATES : SEARCHING;
    return run % 3 == 2 || below(12) == 0 ? any() : kindNamed(names.get(below(names.size())));
  }

  private static int kindNamed(String name) {
    for (int i = 0; i < KINDS.size(); i++) {
      if (KINDS.get(i).name.equals(name)) {
        return i;
      }
    }
    throw new IllegalStateException(name);
  }

  private int any() {
    int left = below(total);
    for (int i = 0; i < KINDS.size(); i++) {
      left -= KINDS.get(i).weight;
      if (left < 0) {
        return i;
      }
    }
    return 0;
  }

  private boolean call(int run, int which, Object[] arguments, List<String> told) {
    String name = KINDS.get(which).name;
    String text = name + Arrays.toString(arguments);
    if (!pair.call(name, arguments)) {
      wrong++;
      System.out.println("run " + run + ": " + text + " answered " + pair.got() + ", due is " + pair.due());
      return false;
    }
    told.add(text + "=" + pair.got());
    return true;
  }

  private Object[] arguments(Kind kind) {
    Object[] row = new Object[kind.arguments.length()];
    for (int i = 0; i < row.length; i++) {
      row[i] = argument(kind.arguments.charAt(i));
      if (row[i] instanceof Integer && below(150) == 0) {
        row[i] = FAR[below(FAR.length)];
      }
    }
    return row;
  }

  private Object argument(char kind) {
    return switch (kind) {
      case 'm' -> 2 + below(6);
      case 'n' -> below(20) == 0 ? -1 : below(below(4) == 0 ? 8 : 4);
      case 'o' -> below(20) == 0 ? -1 : below(below(4) == 0 ? 7 : 2);
      case 's' -> below(20) == 0 ? 4 * below(2) : 1 + below(3);
      case 'e' -> below(20) == 0 ? -1 : below(below(4) == 0 ? 7 : 3);
      case 'c' -> below(20) == 0 ? -1 : below(below(4) == 0 ? 7 : 3);
      case 'k' -> among(pair.plain.keyCount());
      case 'd' -> among(pair.plain.doorCount());
      case 'p' -> among(pair.plain.personCount());
      case 'q' -> below(6) == 0 ? -1 : among(pair.plain.personCount());
      case 'g' -> among(pair.plain.gateCount());
      case 'r' -> among(pair.plain.cardCount());
      case 'B' -> among(pair.plain.blockCount());
      case 'D' -> below(30) == 0 ? -below(2) : below(30) == 0 ? 1 << pair.plain.doorCount() : someDoors();
      case 'K' -> below(20) == 0 ? 65536 * below(2) : below(20) == 0 ? 65535 : below(65536);
      case 'R' -> below(20) == 0 ? 1024 * below(2) : below(20) == 0 ? 1023 : below(1024);
      case 'h' -> below(20) == 0 ? -1 : below(20) == 0 ? 64 : below(below(8) == 0 ? 64 : 8);
      case 'w' -> below(15) == 0 ? -1 : below(15) == 0 ? 8 : below(3) == 0 ? below(8) : 0;
      case 'l' -> below(4) == 0 ? below(12) : 1 + below(4);
      case 'H' -> below(8) == 0 ? hourAtEdge() : 1 + below(60);
      case 'z' -> below(12) == 0 ? below(7) - 1 : below(3);
      case 'y' -> below(2) == 0 ? 0 : below(below(12) == 0 ? 6 : 3);
      case 'a' -> below(6) != 0;
      default -> below(2) == 0;
    };
  }

  private int someDoors() {
    int doors = pair.plain.doorCount();
    return doors == 0 ? 1 : below(3) == 0 ? 1 + below((1 << doors) - 1) : 1 << below(doors);
  }

  private int hourAtEdge() {
    int[] edges = {-1, 0, 1, 168, 169, 200, 201, 500, 501};
    return edges[below(edges.length)];
  }

  private int among(int count) {
    return below(40) == 0 ? -1 : below(40) == 0 || count == 0 ? count : below(count);
  }

  private int below(int bound) {
    seed = seed * 6364136223846793005L + 1442695040888963407L;
    return (int) Math.floorMod(seed >>> 33, (long) bound);
  }
}
