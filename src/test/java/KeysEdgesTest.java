/** The edges that the promises 1 to 6, and the terms of keys, name. */
public final class KeysEdgesTest {
  public static void main(String[] args) {
    emptyHouse();
    machineEnds();
    machineBeyond();
    machineWithKeysOrBlocks();
    cutEnds();
    cutBeyond();
    cutWhenAllAreTold();
    forgetEnds();
    addKeyEnds();
    addKeyRefused();
    depthOfEnds();
    Check.end();
  }

  private static void none(String what, Check.Call... calls) {
    for (Check.Call call : calls) {
      Check.refuses("1: " + what, Check.INDEX, x -> {}, call);
    }
  }

  private static void emptyHouse() {
    none("without keys", x -> x.depthOf(0, 0), x -> x.profileOf(0), x -> x.lose(0), x -> x.replace(0),
        x -> x.below(0, 0), x -> x.belowAt(0, 0, 0, 0), x -> x.cutBelow(0, 0, 0, 0),
        x -> x.setControl(0), x -> x.bring(0), x -> x.holder(0), x -> x.ring(0, 1), x -> x.ring(0, 0));
    none("without doors", x -> x.pins(0, 0), x -> x.strays(0), x -> x.admits(0),
        x -> x.setWard(0, 0), x -> x.thin(0));
    none("without doors and keys", x -> x.wish(0, 0, true), x -> x.wish(0, 0, false),
        x -> x.isWished(0, 0), x -> x.opens(0, 0), x -> x.setBuilding(0, 0), x -> x.use(0, 0),
        x -> x.exchange(0, 1, 0), x -> x.exchange(0, 0, 0));
    none("without persons", x -> x.setDeputy(0, -1), x -> x.setDeputy(-1, -1), x -> x.setAway(0, true),
        x -> x.setGuard(0, -1), x -> x.setGuard(0, 0), x -> x.addCard(0), x -> x.zoneOf(0),
        x -> x.lend(0, 0, 1));
    none("without gates", x -> x.lockAgainst(0, 1), x -> x.lockAgainst(0, 0), x -> x.shut(0),
        x -> x.barredAt(0), x -> x.goOut(0, 0), x -> x.tryCard(0, 0), x -> x.allow(0, 0, true));
    none("without cards", x -> x.bar(0, true), x -> x.bar(0, false), x -> x.load(0));
    none("without blocks", x -> x.findIn(0, 1), x -> x.findIn(0, 0));
    Check.refuses("1: no doors to search for", Check.ILLEGAL, x -> {}, x -> x.find(1));
    Check.refuses("1: no door in a plan", Check.MISSING, x -> {}, x -> x.planAt(10, 0, 0));
    Check.refuses("1: no doors to share", Check.ARITHMETIC, x -> {}, KeyWard::cleanShare);
    Check.refuses("1: no doors of which to take the mean", Check.ARITHMETIC, x -> {}, KeyWard::meanWished);
    KeyWard house = new KeyWard();
    Check.is("1: at the hour 0", house.pass(500), 500);
    Check.is("1: 5 chambers, 5 depths, 3 apart", house.both(0, 1, 5, 5), 2309);
  }

  private static void machineEnds() {
    int[][] rows = {
      {3, 5, 3, 107}, {6, 5, 3, 10727}, {5, 2, 3, 32}, {5, 6, 3, 4034}, {5, 5, 1, 259}, {5, 5, 5, 3125},
      {3, 2, 1, 8}, {6, 2, 1, 64}, {3, 6, 1, 44}, {6, 6, 5, 46656}
    };
    for (int[] row : rows) {
      KeyWard house = new KeyWard();
      String what = "2: " + row[0] + " chambers, " + row[1] + " depths, " + row[2] + " apart";
      Check.is(what, house.machine(row[0], row[1], row[2]), row[3]);
      int depth = row[1] - 1;
      for (int i = 1; i <= row[0]; i++) {
        Check.is(what + ", cut", house.cut(depth), i);
      }
      Check.is(what + ", key", house.addKey(), 0);
      Check.is(what + ", last chamber", house.depthOf(0, row[0] - 1), depth);
    }
    KeyWard again = Check.made(x -> tell(x, 4, 4, 4, 4, 4));
    Check.is("2: the same machine", again.machine(5, 5, 3), 2309);
    Check.is("2: all depths that were told are forgotten", again.forget(), 0);
  }

  private static void machineBeyond() {
    Check.Setting told = x -> tell(x, 4, 1);
    Check.refusesOutside("2: chambers", Check.ILLEGAL, 3, 6, told, (x, n) -> x.machine(n, 5, 3));
    Check.refusesOutside("2: depths", Check.ILLEGAL, 2, 6, told, (x, n) -> x.machine(5, n, 3));
    Check.refusesOutside("2: apart", Check.ILLEGAL, 1, 5, told, (x, n) -> x.machine(5, 5, n));
  }

  private static void machineWithKeysOrBlocks() {
    Check.Setting key = x -> {
      Check.key(x, 0, 0, 0, 0, 0);
      tell(x, 4, 4);
    };
    Check.Setting block = x -> {
      Check.block(x, 4);
      tell(x, 4, 4);
    };
    for (Check.Setting setting : new Check.Setting[] {key, block}) {
      Check.refuses("2: a key or a block", Check.UNSUPPORTED, setting, x -> x.machine(5, 5, 3));
      Check.refuses("2: too few chambers is first", Check.ILLEGAL, setting, x -> x.machine(2, 5, 3));
      Check.refuses("2: too many depths is first", Check.ILLEGAL, setting, x -> x.machine(5, 7, 3));
      Check.refuses("2: 0 apart is first", Check.ILLEGAL, setting, x -> x.machine(5, 5, 0));
    }
    Check.refuses("2: a lost key is a key", Check.UNSUPPORTED, x -> {
      key.of(x);
      x.lose(0);
    }, x -> x.machine(3, 2, 1));
  }

  private static void cutEnds() {
    int[][] rows = {{3, 0, 3}, {3, 4, 1}, {3, 2, 2}, {1, 0, 1}, {1, 4, 3}, {5, 0, 4}, {5, 4, 0}};
    for (int[] row : rows) {
      KeyWard house = Check.made(x -> x.machine(3, 5, row[0]));
      Check.is("3: the first depth", house.cut(row[1]), 1);
      Check.is("3: " + row[1] + " beside " + row[2] + ", " + row[0] + " apart", house.cut(row[2]), 2);
    }
    for (int depths = 2; depths <= 6; depths++) {
      int last = depths - 1;
      KeyWard house = new KeyWard();
      house.machine(3, depths, 5);
      Check.is("3: the last of " + depths, house.cut(last), 1);
      Check.is("3: the first of " + depths, house.cut(0), 2);
    }
  }

  private static void cutBeyond() {
    for (int depths = 2; depths <= 6; depths++) {
      int most = depths;
      Check.Setting machine = x -> x.machine(4, most, 5);
      Check.refusesOutside("3: of " + depths, Check.ILLEGAL, 0, depths - 1, machine, KeyWard::cut);
      Check.refusesOutside("3: of " + depths, Check.ILLEGAL, 0, depths - 1, x -> {
        machine.of(x);
        x.cut(most - 1);
      }, KeyWard::cut);
    }
    int[][] rows = {{3, 0, 4}, {3, 4, 0}, {2, 0, 3}, {2, 4, 1}, {1, 2, 0}, {1, 2, 4}};
    for (int[] row : rows) {
      Check.refuses("3: " + row[1] + " beside " + row[2] + ", " + row[0] + " apart", Check.ILLEGAL, x -> {
        x.machine(3, 5, row[0]);
        x.cut(row[1]);
      }, x -> x.cut(row[2]));
    }
  }

  private static void cutWhenAllAreTold() {
    for (int chambers = 3; chambers <= 6; chambers++) {
      int all = chambers;
      Check.Setting told = x -> {
        x.machine(all, 6, 2);
        for (int i = 1; i <= all; i++) {
          Check.is("3: depth " + i + " of " + all, x.cut(2), i);
        }
      };
      Check.refuses("3: all " + all + " told", Check.STATE, told, x -> x.cut(2));
      Check.refuses("3: all told, the last that is near", Check.STATE, told, x -> x.cut(4));
      Check.refuses("3: all told, too far is first", Check.ILLEGAL, told, x -> x.cut(5));
      Check.refuses("3: all told, no such depth is first", Check.ILLEGAL, told, x -> x.cut(-1));
    }
  }

  private static void forgetEnds() {
    KeyWard house = Check.made(x -> x.machine(6, 2, 1));
    Check.is("4: there were none", house.forget(), 0);
    for (int told = 1; told <= 6; told++) {
      for (int i = 0; i < told; i++) {
        house.cut(i & 1);
      }
      Check.is("4: there were " + told, house.forget(), told);
    }
    Check.is("4: all were forgotten", house.cut(1), 1);
  }

  private static void addKeyEnds() {
    KeyWard house = Check.made(Check::nearlyFull);
    Check.is("5: the 16th key", Check.key(house, 5, 5, 5), 15);
    Check.is("5: its first depth", house.depthOf(15, 0), 5);
    KeyWard profiles = Check.made(x -> x.machine(3, 2, 1));
    for (int i = 0; i < 8; i++) {
      profiles.setBlank(i);
      Check.is("5: the same depths, and the profile " + i, Check.key(profiles, 1, 1, 1), i);
    }
  }

  private static void addKeyRefused() {
    for (int chambers = 3; chambers <= 6; chambers++) {
      int all = chambers;
      Check.refuses("5: one less than " + all, Check.ILLEGAL, x -> {
        x.machine(all, 2, 1);
        for (int i = 1; i < all; i++) {
          x.cut(0);
        }
      }, KeyWard::addKey);
    }
    for (int profile = 0; profile < 8; profile++) {
      int same = profile;
      Check.refuses("5: it is there with the profile " + same, Check.UNSUPPORTED, x -> {
        x.machine(3, 2, 1);
        x.setBlank(same);
        Check.key(x, 0, 1, 1);
        tell(x, 0, 1, 1);
      }, KeyWard::addKey);
    }
    Check.refuses("5: a lost key is there", Check.UNSUPPORTED, x -> {
      x.machine(3, 2, 1);
      x.lose(Check.key(x, 0, 1, 1));
      tell(x, 0, 1, 1);
    }, KeyWard::addKey);
    Check.refuses("5: a 17th", Check.STATE, x -> {
      Check.full(x);
      tell(x, 5, 5, 5);
    }, KeyWard::addKey);
    Check.refuses("5: a 17th that is there", Check.UNSUPPORTED, x -> {
      Check.full(x);
      tell(x, 2, 3, 0);
    }, KeyWard::addKey);
    Check.refuses("5: a 17th that is not told wholly", Check.ILLEGAL, x -> {
      Check.full(x);
      tell(x, 2, 3);
    }, KeyWard::addKey);
  }

  private static void depthOfEnds() {
    KeyWard house = Check.made(Check::full);
    Check.is("6: the last key, the first chamber", house.depthOf(15, 0), 2);
    Check.is("6: the last key, the last chamber", house.depthOf(15, 2), 0);
    Check.is("6: the first key, the last chamber", house.depthOf(0, 2), 0);
    Check.is("6: the last depth", house.depthOf(5, 1), 5);
    Check.refusesOutside("6: key", Check.INDEX, 0, 15, Check::full, (x, n) -> x.depthOf(n, 0));
    for (int chambers = 3; chambers <= 6; chambers++) {
      int all = chambers;
      Check.refusesOutside("6: chamber", Check.INDEX, 0, all - 1, x -> {
        x.machine(all, 2, 1);
        for (int i = 0; i < all; i++) {
          x.cut(1);
        }
        x.addKey();
      }, (x, n) -> x.depthOf(0, n));
    }
    KeyWard six = Check.made(x -> x.machine(6, 6, 1));
    Check.key(six, 5, 4, 3, 2, 1, 0);
    Check.is("6: the depth 5", six.depthOf(0, 0), 5);
    Check.is("6: the sixth chamber", six.depthOf(0, 5), 0);
  }

  private static void tell(KeyWard house, int... depths) {
    for (int depth : depths) {
      house.cut(depth);
    }
  }
}
