import java.util.ArrayList;
import java.util.Arrays;
import java.util.List;

/**
 * Every call with every combination of arguments at the edges of what there is, on houses that are
 * empty, small, full and worn, held against the plain house; after each call that did not throw, and
 * after some that did, the state is looked at by all calls that tell something, and by some that
 * bring to light what is hidden.
 */
public final class SweepTest {
  private static final int MOST_SHOWN = 20;
  private static final int MOST_CALLS = 512;

  /** A call and what its arguments are. */
  private record Kind(String name, String arguments) {}

  private interface Setting {
    void of(Pair pair);
  }

  private static final List<Kind> KINDS =
      List.of(
          new Kind("machine", "mta"), new Kind("cut", "e"), new Kind("forget", ""),
          new Kind("addKey", ""), new Kind("depthOf", "kc"), new Kind("addDoor", ""),
          new Kind("wish", "dkb"), new Kind("isWished", "dk"), new Kind("pins", "dc"),
          new Kind("opens", "dk"), new Kind("strays", "d"), new Kind("admits", "d"),
          new Kind("find", "D"), new Kind("lose", "k"), new Kind("unsafe", ""),
          new Kind("replace", "k"), new Kind("setBlank", "w"), new Kind("profileOf", "k"),
          new Kind("setWard", "dw"), new Kind("setThin", "b"), new Kind("thin", "d"),
          new Kind("pinsNeeded", ""), new Kind("both", "esox"), new Kind("below", "kh"),
          new Kind("belowAt", "khnc"), new Kind("cutBelow", "khnd"), new Kind("addRule", "KRb"),
          new Kind("applyRules", ""), new Kind("keepBlock", ""), new Kind("findIn", "BD"),
          new Kind("setBuilding", "dk"), new Kind("use", "dk"), new Kind("setControl", "k"),
          new Kind("exchange", "ddk"), new Kind("planDays", "l"), new Kind("planAt", "lyy"),
          new Kind("ring", "kk"), new Kind("setDeputy", "pq"), new Kind("setAway", "pb"),
          new Kind("setGuard", "pq"), new Kind("addPerson", ""), new Kind("lend", "kpH"),
          new Kind("bring", "k"), new Kind("holder", "k"), new Kind("late", ""),
          new Kind("pass", "P"), new Kind("addGate", "zz"), new Kind("lockAgainst", "gg"),
          new Kind("addCard", "p"), new Kind("allow", "rgb"), new Kind("bar", "rb"),
          new Kind("load", "r"), new Kind("tryCard", "gr"), new Kind("goOut", "gp"),
          new Kind("shut", "g"), new Kind("zoneOf", "p"), new Kind("barredAt", "g"),
          new Kind("checksum", ""), new Kind("cleanShare", ""), new Kind("meanWished", ""),
          new Kind("isSound", ""));

  /** Calls that change nothing, so that many can be made on the same house. */
  private static final List<String> TELLING =
      List.of(
          "depthOf", "isWished", "pins", "opens", "strays", "admits", "unsafe", "profileOf", "thin",
          "pinsNeeded", "both", "below", "belowAt", "planDays", "planAt", "holder", "late", "zoneOf",
          "barredAt", "checksum", "cleanShare", "meanWished", "isSound");

  private int wrong;
  private String where = "";

  public static void main(String[] args) {
    SweepTest test = new SweepTest();
    test.sweep("empty", x -> {});
    test.sweep("told", SweepTest::told);
    test.sweep("small", SweepTest::small);
    test.sweep("full", SweepTest::full);
    test.sweep("worn", SweepTest::worn);
    System.exit(test.wrong > 0 ? 1 : 0);
  }

  // ---- houses

  private static void key(Pair pair, int... depths) {
    for (int depth : depths) {
      pair.call("cut", depth);
    }
    pair.call("addKey");
  }

  private static void block(Pair pair, int... depths) {
    for (int depth : depths) {
      pair.call("cut", depth);
    }
    pair.call("keepBlock");
  }

  private static void told(Pair pair) {
    for (int depth : new int[] {4, 1, 4, 4, 1}) {
      pair.call("cut", depth);
    }
    pair.call("addDoor");
    pair.call("addPerson");
  }

  private static void small(Pair pair) {
    pair.call("machine", 3, 3, 1);
    pair.call("addDoor");
    pair.call("addDoor");
    pair.call("find", 1);
    pair.call("find", 3);
    pair.call("addPerson");
    pair.call("addPerson");
    pair.call("addGate", 0, 1);
    pair.call("addGate", 1, 0);
    pair.call("addCard", 1);
    block(pair, 2);
    pair.call("setControl", 1);
    pair.call("cut", 1);
  }

  private static void full(Pair pair) {
    pair.call("machine", 3, 4, 2);
    for (int i = 0; i < 16; i++) {
      key(pair, i / 6, i / 2 % 3, i % 2);
    }
    for (int i = 0; i < 10; i++) {
      pair.call("addDoor");
    }
    for (int i = 0; i < 8; i++) {
      pair.call("addPerson");
      pair.call("addGate", i % 5, (i + 1) % 5);
    }
    for (int i = 0; i < 12; i++) {
      pair.call("addCard", i % 8);
      pair.call("addRule", 1 << i, 1023, i % 2 == 0);
    }
    block(pair, 3, 1);
    block(pair, 3, 2, 0);
    block(pair, 3, 2, 1);
    block(pair, 3, 3);
  }

  private static void worn(Pair pair) {
    full(pair);
    for (int i = 0; i < 10; i++) {
      pair.call("wish", i, i, true);
      pair.call("wish", 9 - i, 15, true);
    }
    pair.call("setControl", 14);
    pair.call("setBuilding", 9, 14);
    pair.call("setBuilding", 0, 1);
    pair.call("ring", 0, 15);
    pair.call("ring", 1, 2);
    pair.call("lend", 15, 7, 1);
    pair.call("lend", 1, 0, 200);
    pair.call("lend", 8, 1, 1);
    pair.call("lose", 8);
    pair.call("lose", 0);
    pair.call("lose", 14);
    pair.call("setDeputy", 0, 1);
    pair.call("setDeputy", 1, 0);
    pair.call("setDeputy", 7, 6);
    pair.call("setAway", 0, true);
    pair.call("setAway", 1, true);
    pair.call("setAway", 7, true);
    pair.call("setGuard", 7, 0);
    for (int i = 0; i < 8; i++) {
      pair.call("allow", 7, i, true);
      pair.call("allow", 11, i, i % 2 == 0);
    }
    pair.call("bar", 0, true);
    pair.call("load", 7);
    pair.call("load", 11);
    pair.call("tryCard", 0, 11);
    pair.call("lockAgainst", 0, 1);
    pair.call("lockAgainst", 0, 7);
    pair.call("bar", 11, true);
    pair.call("pass", 2);
    pair.call("cut", 0);
    pair.call("cut", 2);
  }

  // ---- sweeping

  private void sweep(String name, Setting setting) {
    Pair pair = null;
    for (Kind kind : KINDS) {
      List<Object[]> rows = rows(kind, made(setting).plain);
      for (Object[] row : rows) {
        if (wrong >= MOST_SHOWN) {
          return;
        }
        if (pair == null) {
          pair = made(setting);
        }
        where = name + ": " + kind.name + Arrays.toString(row);
        check(pair, "", kind.name, row);
        boolean isSame = pair.hasThrown() || TELLING.contains(kind.name);
        if (!isSame || pair.calls() > MOST_CALLS - 320) {
          look(pair);
          pair = null;
        }
      }
    }
  }

  private static Pair made(Setting setting) {
    Pair pair = new Pair();
    setting.of(pair);
    return pair;
  }

  private void check(Pair pair, String then, String name, Object... arguments) {
    if (pair.calls() < MOST_CALLS && !pair.call(name, arguments)) {
      wrong++;
      System.out.println(where + then + " answered " + pair.got() + ", due is " + pair.due());
    }
  }

  private void also(Pair pair, String name, Object... arguments) {
    check(pair, ", then " + name + Arrays.toString(arguments), name, arguments);
  }

  private void look(Pair pair) {
    lookAtAll(pair);
    lookAtKeysAndDoors(pair);
    lookBehind(pair);
  }

  private void lookAtAll(Pair pair) {
    for (String name : List.of("unsafe", "pinsNeeded", "late", "checksum", "cleanShare", "meanWished", "isSound")) {
      also(pair, name);
    }
    also(pair, "planAt", 3, 0, 0);
    for (int i = 0; i < pair.plain.personCount(); i++) {
      also(pair, "zoneOf", i);
    }
    for (int i = 0; i < pair.plain.gateCount(); i++) {
      also(pair, "barredAt", i);
    }
  }

  private void lookAtKeysAndDoors(Pair pair) {
    int keys = pair.plain.keyCount();
    for (int i = 0; i < keys; i++) {
      also(pair, "holder", i);
    }
    if (keys > 0) {
      also(pair, "profileOf", keys - 1);
      also(pair, "depthOf", keys - 1, 1);
    }
    for (int i = 0; i < pair.plain.doorCount(); i++) {
      also(pair, "strays", i);
      also(pair, "thin", i);
      also(pair, "isWished", i, i);
      also(pair, "isWished", i, keys - 1);
      also(pair, "opens", i, 14);
    }
  }

  /** What no call tells shows in what calls do. */
  private void lookBehind(Pair pair) {
    also(pair, "forget");
    also(pair, "setThin", true);
    also(pair, "setBlank", 0);
    also(pair, "both", 0, 1, 6, 5);
    also(pair, "addRule", 1, 1, true);
    also(pair, "setAway", 7, false);
    also(pair, "setDeputy", 0, -1);
    also(pair, "setDeputy", 7, -1);
    also(pair, "setGuard", 0, -1);
    also(pair, "setGuard", 7, -1);
    also(pair, "lend", 2, 1, 3);
    also(pair, "pass", 167);
    for (int i = 0; i < 8; i += 7) {
      also(pair, "tryCard", i, 0);
      also(pair, "tryCard", i, 7);
      also(pair, "tryCard", i, 11);
      also(pair, "allow", 11, i, false);
      also(pair, "lockAgainst", i, 1);
      also(pair, "shut", i);
    }
    also(pair, "bar", 1, true);
    also(pair, "late");
    also(pair, "bring", 15);
    also(pair, "ring", 3, 4);
    also(pair, "setWard", 0, 0);
    also(pair, "setBuilding", 0, 5);
    also(pair, "setBuilding", 9, 5);
    also(pair, "setControl", 5);
    also(pair, "exchange", 0, 9, 5);
    also(pair, "applyRules");
    also(pair, "findIn", 0, 1);
    also(pair, "find", 1);
  }

  // ---- arguments

  private static List<Object[]> rows(Kind kind, PlainHouse plain) {
    List<Object[]> rows = new ArrayList<>();
    rows.add(new Object[0]);
    for (int i = 0; i < kind.arguments.length(); i++) {
      List<Object[]> longer = new ArrayList<>();
      for (Object[] row : rows) {
        for (Object edge : edges(kind.arguments.charAt(i), plain)) {
          Object[] more = Arrays.copyOf(row, row.length + 1);
          more[row.length] = edge;
          longer.add(more);
        }
      }
      rows = longer;
    }
    return rows;
  }

  private static Object[] edges(char kind, PlainHouse plain) {
    return switch (kind) {
      case 'b' -> new Object[] {true, false};
      case 'k' -> among(plain.keyCount(), 8, 14);
      case 'd' -> among(plain.doorCount());
      case 'p' -> among(plain.personCount(), 1);
      case 'q' -> among(plain.personCount(), -2, 1);
      case 'g' -> among(plain.gateCount(), 1);
      case 'r' -> among(plain.cardCount(), 7);
      case 'B' -> among(plain.blockCount());
      case 'D' -> among(1 << plain.doorCount(), 1, 1 << plain.doorCount() - 1);
      case 'K' -> among(65536, 1, 32768);
      case 'R' -> among(1024, 1, 512);
      case 'm' -> numbers(2, 3, 6, 7);
      case 't' -> numbers(1, 2, 6, 7);
      case 'a' -> numbers(0, 1, 5, 6);
      case 'e' -> numbers(-1, 0, 1, 2, 3, 4, 5, 6);
      case 'c' -> numbers(-1, 0, 2, 3, 4, 5);
      case 'h' -> numbers(-1, 0, 1, 3, 4, 7, 8, 31, 32);
      case 'n' -> numbers(-1, 0, 1, 2, 3, 4, 7, 8);
      case 's' -> numbers(0, 1, 2, 3, 4);
      case 'o' -> numbers(0, 1, 6, 7);
      case 'x' -> numbers(-1, 0, 5, 6);
      case 'w' -> numbers(-1, 0, 1, 7, 8);
      case 'l' -> numbers(0, 1, 3, 9, 10, 11);
      case 'y' -> numbers(-1, 0, 1, 2, 3, 8, 9, 10);
      case 'H' -> numbers(0, 1, 200, 201);
      case 'P' -> numbers(0, 1, 166, 167, 198, 199, 500, 501);
      default -> numbers(-1, 0, 1, 4, 5);
    };
  }

  private static Object[] numbers(int... numbers) {
    Object[] row = new Object[numbers.length + 2];
    row[0] = Integer.MIN_VALUE;
    row[1] = Integer.MAX_VALUE;
    for (int i = 0; i < numbers.length; i++) {
      row[i + 2] = numbers[i];
    }
    return row;
  }

  private static Object[] among(int count, int... more) {
    int[] ends = Arrays.copyOf(more, more.length + 4);
    ends[more.length] = -1;
    ends[more.length + 1] = 0;
    ends[more.length + 2] = count - 1;
    ends[more.length + 3] = count;
    return Arrays.stream(numbers(ends)).distinct().toArray();
  }
}
