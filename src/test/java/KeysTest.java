/** The promises 1 to 6. */
public final class KeysTest {
  public static void main(String[] args) {
    newObject();
    machineCounts();
    machineForgets();
    machineRefuses();
    cutTells();
    cutRefuses();
    forgets();
    addsKeys();
    addKeyRefuses();
    depthsOfKeys();
    Check.end();
  }

  private static void newObject() {
    KeyWard house = new KeyWard();
    Check.is("1: forget of a new one", house.forget(), 0);
    Check.is("1: unsafe of a new one", house.unsafe(), 0);
    Check.is("1: late of a new one", house.late(), 0);
    Check.is("1: pinsNeeded of a new one", house.pinsNeeded(), 0);
    Check.is("1: checksum of a new one", house.checksum(), 0L);
    Check.is("1: applyRules of a new one", house.applyRules(), 0);
    Check.is("1: planDays of a new one", house.planDays(1), 0);
    Check.is("1: isSound of a new one", house.isSound(), true);
    Check.is("1: the blank at first", house.setBlank(0), 0);
    Check.is("1: thin chambers at first", house.setThin(true), true);
    Check.is("1: the hour is 0 at first", house.pass(1), 1);
    Check.is("1: the first door", house.addDoor(), 0);
    Check.is("1: the first person", house.addPerson(), 0);
    Check.is("1: the first gate", house.addGate(0, 1), 0);
    Check.is("1: the first card", house.addCard(0), 0);
    Check.is("1: the first rule", house.addRule(1, 1, true), 1);
    Check.is("1: the first key has 5 chambers", Check.key(house, 4, 1, 4, 1, 4), 0);
    Check.is("1: the control key at first", house.setControl(0), -1);
    Check.is("1: a building key at first", house.setBuilding(0, 0), -1);
    Check.refuses("1: no key at first", Check.INDEX, x -> {}, x -> x.profileOf(0));
    Check.refuses("1: no door at first", Check.INDEX, x -> {}, x -> x.admits(0));
    Check.refuses("1: no person at first", Check.INDEX, x -> {}, x -> x.zoneOf(0));
    Check.refuses("1: no gate at first", Check.INDEX, x -> {}, x -> x.shut(0));
    Check.refuses("1: 5 depths at first", Check.ILLEGAL, x -> {}, x -> x.cut(5));
    Check.refuses("1: 3 apart at first", Check.ILLEGAL, x -> x.cut(0), x -> x.cut(4));
  }

  private static void machineCounts() {
    KeyWard house = new KeyWard();
    Check.is("2: machine(3, 2, 1)", house.machine(3, 2, 1), 8);
    Check.is("2: machine(3, 3, 1)", house.machine(3, 3, 1), 17);
    Check.is("2: machine(3, 4, 2)", house.machine(3, 4, 2), 50);
    Check.is("2: machine(4, 3, 1)", house.machine(4, 3, 1), 41);
    Check.is("2: machine(6, 6, 5)", house.machine(6, 6, 5), 46656);
    Check.is("2: machine(6, 6, 4)", house.machine(6, 6, 4), 35954);
    Check.is("2: machine(6, 2, 5)", house.machine(6, 2, 5), 64);
    Check.is("2: the last machine cuts 6 chambers", Check.key(house, 0, 1, 0, 1, 0, 1), 0);
  }

  private static void machineForgets() {
    KeyWard house = Check.made(x -> x.cut(4));
    house.machine(3, 3, 1);
    Check.is("2: depths are forgotten", house.forget(), 0);
    house.cut(0);
    Check.is("2: doors may be there", house.addDoor(), 0);
    Check.is("2: with a door and depths told", house.machine(4, 2, 1), 16);
    Check.is("2: depths are forgotten again", house.cut(1), 1);
  }

  private static void machineRefuses() {
    int[][] wrong = {{2, 4, 1}, {7, 4, 1}, {4, 1, 1}, {4, 7, 1}, {4, 4, 0}, {4, 4, 6}, {-3, 4, 1}};
    for (int[] row : wrong) {
      Check.refuses("2: a number out of range", Check.ILLEGAL, x -> x.cut(1), x -> x.machine(row[0], row[1], row[2]));
    }
    Check.refuses("2: a key is there", Check.UNSUPPORTED, x -> Check.smallKeys(x, 1), x -> x.machine(3, 3, 1));
    Check.refuses("2: a block is there", Check.UNSUPPORTED, x -> Check.block(x, 1), x -> x.machine(3, 3, 1));
    Check.refuses("2: out of range is first", Check.ILLEGAL, x -> Check.smallKeys(x, 1), x -> x.machine(3, 3, 6));
  }

  private static void cutTells() {
    KeyWard house = Check.made(x -> x.machine(4, 6, 5));
    Check.is("3: the first depth", house.cut(5), 1);
    Check.is("3: 5 apart", house.cut(0), 2);
    Check.is("3: the same depth", house.cut(0), 3);
    Check.is("3: the last depth", house.cut(5), 4);
    Check.is("3: they make the key", house.addKey(), 0);
    Check.is("3: depth 0", house.depthOf(0, 0), 5);
    Check.is("3: depth 1", house.depthOf(0, 1), 0);
    Check.is("3: depth 3", house.depthOf(0, 3), 5);
    Check.is("3: a new key starts anew", house.cut(0), 1);
  }

  private static void cutRefuses() {
    Check.refuses("3: depth -1", Check.ILLEGAL, x -> x.cut(0), x -> x.cut(-1));
    Check.refuses("3: depth 5 of 5", Check.ILLEGAL, x -> x.cut(4), x -> x.cut(5));
    Check.refuses("3: depth 2 of 2", Check.ILLEGAL, x -> x.machine(3, 2, 1), x -> x.cut(2));
    Check.refuses("3: too far up", Check.ILLEGAL, x -> x.cut(0), x -> x.cut(4));
    Check.refuses("3: too far down", Check.ILLEGAL, x -> x.cut(4), x -> x.cut(0));
    Check.Setting all = x -> tell(x, 0, 1, 2, 3, 4);
    Check.refuses("3: all are told", Check.STATE, all, x -> x.cut(4));
    Check.refuses("3: all are told, and no such depth", Check.ILLEGAL, all, x -> x.cut(5));
    Check.refuses("3: all are told, and too far", Check.ILLEGAL, all, x -> x.cut(0));
  }

  private static void forgets() {
    KeyWard house = new KeyWard();
    Check.is("4: nothing told", house.forget(), 0);
    tell(house, 4, 1, 0);
    Check.is("4: three told", house.forget(), 3);
    Check.is("4: they are gone", house.forget(), 0);
    Check.is("4: the one before is gone", house.cut(4), 1);
  }

  private static void addsKeys() {
    KeyWard house = new KeyWard();
    Check.is("5: the first key", Check.key(house, 0, 0, 0, 0, 0), 0);
    Check.is("5: the depths are forgotten", house.forget(), 0);
    Check.is("5: the second key", Check.key(house, 0, 0, 0, 0, 1), 1);
    house.setBlank(4);
    Check.is("5: the same depths of another profile", Check.key(house, 0, 0, 0, 0, 1), 2);
    Check.is("5: it has the profile of the blank", house.profileOf(2), 4);
    Check.block(house, 3);
    Check.is("5: a key that a block keeps", Check.key(house, 3, 3, 3, 3, 3), 3);
    KeyWard full = Check.made(x -> Check.smallKeys(x, 16));
    Check.is("5: the last of 16", full.depthOf(15, 3), 1);
  }

  private static void addKeyRefuses() {
    Check.refuses("5: none told", Check.ILLEGAL, x -> {}, KeyWard::addKey);
    Check.refuses("5: one missing", Check.ILLEGAL, x -> tell(x, 1, 1, 1, 1), KeyWard::addKey);
    Check.Setting twice = x -> {
      Check.key(x, 1, 2, 1, 2, 1);
      tell(x, 1, 2, 1, 2, 1);
    };
    Check.refuses("5: it is there", Check.UNSUPPORTED, twice, KeyWard::addKey);
    Check.Setting full = x -> {
      x.setBlank(1);
      Check.smallKeys(x, 16);
    };
    Check.refuses("5: 16 keys, not all told", Check.ILLEGAL, x -> {
      full.of(x);
      tell(x, 0, 0, 0);
    }, KeyWard::addKey);
    Check.refuses("5: 16 keys, and it is there", Check.UNSUPPORTED, x -> {
      full.of(x);
      tell(x, 0, 0, 0, 0);
    }, KeyWard::addKey);
    Check.refuses("5: 16 keys", Check.STATE, x -> {
      full.of(x);
      x.setBlank(2);
      tell(x, 0, 0, 0, 0);
    }, KeyWard::addKey);
  }

  private static void depthsOfKeys() {
    KeyWard house = Check.made(x -> Check.key(x, 4, 3, 2, 1, 0));
    for (int c = 0; c < 5; c++) {
      Check.is("6: chamber " + c, house.depthOf(0, c), 4 - c);
    }
    Check.Setting one = x -> Check.key(x, 4, 3, 2, 1, 0);
    Check.refuses("6: key 1 of 1", Check.INDEX, one, x -> x.depthOf(1, 0));
    Check.refuses("6: key -1", Check.INDEX, one, x -> x.depthOf(-1, 0));
    Check.refuses("6: chamber 5 of 5", Check.INDEX, one, x -> x.depthOf(0, 5));
    Check.refuses("6: chamber -1", Check.INDEX, one, x -> x.depthOf(0, -1));
    Check.refuses("6: chamber 4 of 4", Check.INDEX, x -> Check.smallKeys(x, 1), x -> x.depthOf(0, 4));
  }

  private static void tell(KeyWard house, int... depths) {
    for (int depth : depths) {
      house.cut(depth);
    }
  }
}
