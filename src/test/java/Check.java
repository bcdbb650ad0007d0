import java.util.List;

/**
 * What the tests share. What is not as due is printed and counted.
 *
 * <p>Whether a call that throws changed nothing is seen from two houses that were made alike: one
 * gets the call, then both are asked the same things, also such that change them.
 */
final class Check {
  interface Call {
    Object on(KeyWard house);
  }

  /** Sets up a house. */
  interface Setting {
    void of(KeyWard house);
  }

  /** A call of which one argument is told. */
  interface NumberCall {
    Object on(KeyWard house, int number);
  }

  private interface Probe {
    void of(KeyWard house, StringBuilder told);
  }

  static final Class<?> ILLEGAL = IllegalArgumentException.class;
  static final Class<?> INDEX = IndexOutOfBoundsException.class;
  static final Class<?> UNSUPPORTED = UnsupportedOperationException.class;
  static final Class<?> STATE = IllegalStateException.class;
  static final Class<?> MISSING = java.util.NoSuchElementException.class;
  static final Class<?> ARITHMETIC = ArithmeticException.class;

  private static final List<Probe> PROBES =
      List.of(
          Check::askKeys,
          Check::askDoors,
          Check::askWishes,
          Check::askMachine,
          Check::askTold,
          Check::askRules,
          Check::askSearch,
          Check::askCores,
          Check::askLending,
          Check::askGates,
          Check::askCards);

  private static int wrong;

  private Check() {}

  static void is(String what, Object got, Object due) {
    if (!due.equals(got)) {
      wrong++;
      System.out.println(what + " answered " + got + ", due is " + due);
    }
  }

  static KeyWard made(Setting setting) {
    KeyWard house = new KeyWard();
    setting.of(house);
    return house;
  }

  static void refuses(String what, Class<?> due, Setting setting, Call call) {
    is(what, answer(made(setting), call), due.getSimpleName());
    for (Probe probe : PROBES) {
      KeyWard called = made(setting);
      KeyWard untouched = made(setting);
      answer(called, call);
      is(what + ", and then", asked(called, probe), asked(untouched, probe));
    }
  }

  /** Refuses the numbers next to a range, those that a shift or a narrow type lets wrap, and far ones. */
  static void refusesOutside(
      String what, Class<?> due, int least, int most, Setting setting, NumberCall call) {
    int[] numbers = {
      Integer.MIN_VALUE, least - 65536, least - 32, least - 1,
      most + 1, most + 32, most + 256, most + 65536, Integer.MAX_VALUE
    };
    for (int number : numbers) {
      refuses(what + " " + number, due, setting, x -> call.on(x, number));
    }
  }

  static void end() {
    System.exit(wrong > 0 ? 1 : 0);
  }

  // ---- settings that many tests need

  static int key(KeyWard house, int... depths) {
    for (int depth : depths) {
      house.cut(depth);
    }
    return house.addKey();
  }

  static int block(KeyWard house, int... depths) {
    for (int depth : depths) {
      house.cut(depth);
    }
    return house.keepBlock();
  }

  static void doors(KeyWard house, int count) {
    for (int i = 0; i < count; i++) {
      house.addDoor();
    }
  }

  static void persons(KeyWard house, int count) {
    for (int i = 0; i < count; i++) {
      house.addPerson();
    }
  }

  /** The first keys of a machine with 4 chambers and 2 depths. */
  static void smallKeys(KeyWard house, int count) {
    house.machine(4, 2, 1);
    for (int i = 0; i < count; i++) {
      key(house, i >> 3 & 1, i >> 2 & 1, i >> 1 & 1, i & 1);
    }
  }

  /** As many of everything as there can be, but the last key: 3 chambers, 6 depths, 5 apart. */
  static void nearlyFull(KeyWard house) {
    house.machine(3, 6, 5);
    for (int i = 0; i < 15; i++) {
      key(house, i / 6, i % 6, 0);
    }
    doors(house, 10);
    persons(house, 8);
    for (int i = 0; i < 8; i++) {
      house.addGate(i % 5, (i + 1) % 5);
    }
    for (int i = 0; i < 12; i++) {
      house.addCard(i % 8);
    }
    block(house, 4);
    block(house, 5, 0);
    block(house, 5, 1);
    block(house, 5, 2);
  }

  static void full(KeyWard house) {
    nearlyFull(house);
    key(house, 2, 3, 0);
  }

  // ---- probes

  private static String asked(KeyWard house, Probe probe) {
    StringBuilder told = new StringBuilder();
    probe.of(house, told);
    return told.toString();
  }

  private static String answer(KeyWard house, Call call) {
    try {
      return String.valueOf(call.on(house));
    } catch (RuntimeException e) {
      return e.getClass().getSimpleName();
    }
  }

  private static void ask(KeyWard house, StringBuilder told, Call call) {
    told.append(answer(house, call)).append(' ');
  }

  private static void askKeys(KeyWard house, StringBuilder told) {
    for (int i = 0; i < 16; i++) {
      int key = i;
      ask(house, told, x -> x.profileOf(key));
      ask(house, told, x -> x.holder(key));
      for (int c = 0; c < 6; c++) {
        int chamber = c;
        ask(house, told, x -> x.depthOf(key, chamber));
      }
    }
    ask(house, told, KeyWard::late);
    ask(house, told, KeyWard::isSound);
  }

  private static void askDoors(KeyWard house, StringBuilder told) {
    for (int i = 0; i < 10; i++) {
      int door = i;
      ask(house, told, x -> x.strays(door));
      ask(house, told, x -> x.admits(door));
      ask(house, told, x -> x.thin(door));
      ask(house, told, x -> x.planAt(1, door, 0));
      for (int c = 0; c < 6; c++) {
        int chamber = c;
        ask(house, told, x -> x.pins(door, chamber));
      }
    }
    ask(house, told, KeyWard::unsafe);
    ask(house, told, KeyWard::pinsNeeded);
    ask(house, told, KeyWard::checksum);
    ask(house, told, KeyWard::cleanShare);
    ask(house, told, KeyWard::meanWished);
  }

  private static void askWishes(KeyWard house, StringBuilder told) {
    for (int i = 0; i < 160; i++) {
      int door = i / 16;
      int key = i % 16;
      ask(house, told, x -> x.isWished(door, key));
      ask(house, told, x -> x.opens(door, key));
    }
  }

  private static void askMachine(KeyWard house, StringBuilder told) {
    ask(house, told, x -> x.setBlank(0));
    ask(house, told, x -> x.setThin(true));
    ask(house, told, x -> x.both(0, 1, 6, 5));
    ask(house, told, x -> x.machine(3, 2, 1));
    ask(house, told, KeyWard::addDoor);
    ask(house, told, KeyWard::addPerson);
    ask(house, told, x -> x.addGate(0, 1));
    ask(house, told, x -> x.addCard(0));
    ask(house, told, x -> x.pass(1));
    ask(house, told, KeyWard::keepBlock);
    ask(house, told, KeyWard::forget);
  }

  private static void askTold(KeyWard house, StringBuilder told) {
    for (int i = 0; i < 36; i++) {
      int depth = i % 6;
      ask(house, told, x -> x.cut(depth));
    }
    ask(house, told, KeyWard::addKey);
    for (int i = 0; i < 96; i++) {
      int key = i / 6;
      int chamber = i % 6;
      ask(house, told, x -> x.depthOf(key, chamber));
    }
    ask(house, told, KeyWard::forget);
  }

  private static void askRules(KeyWard house, StringBuilder told) {
    ask(house, told, KeyWard::applyRules);
    for (int i = 0; i < 160; i++) {
      int door = i / 16;
      int key = i % 16;
      ask(house, told, x -> x.isWished(door, key));
    }
    ask(house, told, x -> x.addRule(1, 1, true));
  }

  private static void askSearch(KeyWard house, StringBuilder told) {
    for (int i = 0; i < 4; i++) {
      int block = i;
      ask(house, told, x -> x.findIn(block, 1));
    }
    ask(house, told, x -> x.find(1));
    for (int i = 0; i < 96; i++) {
      int key = i / 6;
      int chamber = i % 6;
      ask(house, told, x -> x.depthOf(key, chamber));
    }
  }

  private static void askCores(KeyWard house, StringBuilder told) {
    for (int i = 0; i < 160; i++) {
      int door = i % 10;
      int key = i / 10;
      ask(house, told, x -> x.setBuilding(door, key));
    }
    for (int i = 0; i < 10; i++) {
      int door = i;
      ask(house, told, x -> x.setWard(door, 0));
    }
    for (int i = 0; i < 16; i++) {
      int key = i;
      ask(house, told, x -> x.setControl(key));
      ask(house, told, x -> x.lose(key));
      ask(house, told, x -> x.replace(key));
    }
  }

  private static void askLending(KeyWard house, StringBuilder told) {
    for (int i = 0; i < 8; i++) {
      int person = i;
      ask(house, told, x -> x.lend(person, person, 3));
      ask(house, told, x -> x.lend(15 - person, 0, 3));
    }
    ask(house, told, x -> x.pass(300));
    for (int i = 0; i < 16; i++) {
      int key = i;
      ask(house, told, KeyWard::late);
      ask(house, told, x -> x.bring(key));
      ask(house, told, x -> x.ring(key, (key + 1) % 16));
    }
    for (int i = 0; i < 8; i++) {
      int person = i;
      ask(house, told, x -> x.setAway(person, false));
      ask(house, told, x -> x.setDeputy(person, -1));
      ask(house, told, x -> x.setGuard(person, -1));
      ask(house, told, x -> x.zoneOf(person));
    }
  }

  private static void askGates(KeyWard house, StringBuilder told) {
    for (int i = 0; i < 8; i++) {
      int gate = i;
      ask(house, told, x -> x.zoneOf(gate));
      ask(house, told, x -> x.barredAt(gate));
      ask(house, told, x -> x.lockAgainst(gate, (gate + 1) % 8));
      for (int p = 0; p < 8; p++) {
        int person = p;
        ask(house, told, x -> x.goOut(gate, person));
      }
    }
    for (int i = 0; i < 8; i++) {
      int gate = i;
      ask(house, told, x -> x.shut(gate));
    }
  }

  private static void askCards(KeyWard house, StringBuilder told) {
    for (int i = 0; i < 96; i++) {
      int gate = i / 12;
      int card = i % 12;
      ask(house, told, x -> x.tryCard(gate, card));
      ask(house, told, x -> x.shut(gate));
    }
    for (int i = 0; i < 12; i++) {
      int card = i;
      ask(house, told, x -> x.load(card));
      ask(house, told, x -> x.tryCard(0, card));
      ask(house, told, x -> x.allow(card, 0, true));
      ask(house, told, x -> x.bar(card, true));
    }
  }
}
