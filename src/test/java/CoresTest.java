/** The promises 32 to 37. */
public final class CoresTest {
  public static void main(String[] args) {
    setsBuilding();
    buildingRefuses();
    usesKeys();
    setsControl();
    controlRefuses();
    exchanges();
    exchangeRefuses();
    countsDays();
    tellsPlan();
    planRefuses();
    Check.end();
  }

  /** Three doors and the keys 0000 to 0011, of which 0 is wished for the door 0. */
  private static void cores(KeyWard house) {
    Check.smallKeys(house, 4);
    Check.doors(house, 3);
    house.wish(0, 0, true);
  }

  private static void setsBuilding() {
    KeyWard house = Check.made(CoresTest::cores);
    Check.is("32: none before", house.setBuilding(0, 1), -1);
    Check.is("32: the one before", house.setBuilding(0, 2), 1);
    Check.is("32: the one before opens it no more", house.opens(0, 1), false);
    Check.is("32: it opens it", house.opens(0, 2), true);
    Check.is("32: another door", house.setBuilding(1, 0), -1);
    Check.is("32: a door for which no key is wished", house.opens(1, 0), true);
    Check.is("32: it is not wished", house.isWished(1, 0), false);
    Check.is("32: the same one", house.setBuilding(1, 0), 0);
    house.wish(0, 2, true);
    Check.is("32: it may be wished later", house.setBuilding(0, 1), 2);
    house.setWard(2, 4);
    house.setBlank(4);
    Check.is("32: whatever the ward is", house.setBuilding(2, Check.key(house, 1, 1, 1, 1)), -1);
    Check.is("32: whatever the ward is", house.use(2, 4), true);
  }

  private static void buildingRefuses() {
    int[][] none = {{3, 0}, {-1, 0}, {0, 4}, {0, -1}};
    for (int[] row : none) {
      Check.refuses("32: no door or key", Check.INDEX, CoresTest::cores, x -> x.setBuilding(row[0], row[1]));
    }
    Check.refuses("32: it is wished", Check.UNSUPPORTED, x -> {
      cores(x);
      x.setBuilding(0, 3);
    }, x -> x.setBuilding(0, 0));
    Check.refuses("32: it is lost", Check.UNSUPPORTED, x -> {
      cores(x);
      x.lose(1);
    }, x -> x.setBuilding(1, 1));
  }

  private static void usesKeys() {
    KeyWard house = Check.made(CoresTest::cores);
    house.setBuilding(0, 3);
    house.setBuilding(1, 3);
    Check.is("33: a key that opens not", house.use(0, 1), false);
    Check.is("33: the building key lives", house.use(0, 3), true);
    Check.is("33: it lives when it is used", house.use(0, 3), true);
    Check.is("33: a wished key", house.use(0, 0), true);
    Check.is("33: the building key is dead", house.use(0, 3), false);
    Check.is("33: it lives at another door", house.use(1, 3), true);
    Check.is("33: no building key any more", house.setBuilding(0, 2), -1);
    house.wish(0, 3, true);
    house.wish(0, 0, false);
    house.wish(0, 1, true);
    Check.is("33: a stray opens", house.use(0, 1), true);
    house.setBuilding(0, 2);
    house.wish(0, 1, false);
    house.wish(0, 0, true);
    Check.is("33: a stray is used", house.use(0, 1), true);
    Check.is("33: the building key lives on", house.opens(0, 2), true);
    house.wish(0, 2, true);
    Check.is("33: a building key that is wished", house.use(0, 2), true);
    house.wish(0, 2, false);
    Check.is("33: it kills itself", house.setBuilding(0, 2), -1);
    KeyWard lost = Check.made(CoresTest::cores);
    lost.setBuilding(0, 1);
    lost.lose(1);
    Check.is("33: a lost building key", lost.use(0, 1), true);
    lost.lose(0);
    Check.is("33: a lost key that is wished", lost.use(0, 0), true);
    Check.is("33: kills it, too", lost.use(0, 1), false);
    int[][] none = {{3, 0}, {-1, 0}, {0, 4}, {0, -1}};
    for (int[] row : none) {
      Check.refuses("33: no door or key", Check.INDEX, CoresTest::cores, x -> x.use(row[0], row[1]));
    }
  }

  private static void setsControl() {
    KeyWard house = Check.made(CoresTest::cores);
    Check.is("34: none before", house.setControl(0), -1);
    Check.is("34: the one before", house.setControl(3), 0);
    Check.is("34: the same one", house.setControl(3), 3);
    house.lose(3);
    Check.is("34: the one before is lost", house.setControl(1), 3);
  }

  private static void controlRefuses() {
    Check.refuses("34: key 4 of 4", Check.INDEX, CoresTest::cores, x -> x.setControl(4));
    Check.refuses("34: key -1", Check.INDEX, CoresTest::cores, x -> x.setControl(-1));
    Check.refuses("34: it is lost", Check.UNSUPPORTED, x -> {
      cores(x);
      x.lose(2);
    }, x -> x.setControl(2));
    Check.refuses("34: the control key is lost", Check.UNSUPPORTED, x -> {
      cores(x);
      x.setControl(2);
      x.lose(2);
    }, x -> x.setControl(2));
  }

  private static void exchanges() {
    KeyWard house = Check.made(CoresTest::cores);
    house.wish(1, 1, true);
    house.wish(1, 2, true);
    house.setWard(0, 5);
    house.setBuilding(1, 3);
    house.setControl(3);
    Check.is("35: the wishes of the other one", house.exchange(0, 1, 3), 2);
    Check.is("35: wished for the first one", house.isWished(0, 1), true);
    Check.is("35: no more for the first one", house.isWished(0, 0), false);
    Check.is("35: wished for the other one", house.isWished(1, 0), true);
    Check.is("35: the building key goes along", house.opens(0, 3), true);
    Check.is("35: the other one had none", house.setBuilding(1, 2), -1);
    Check.is("35: the ward goes along", house.setWard(1, 1), 5);
    Check.is("35: the other ward, too", house.setWard(0, 0), 0);
    Check.is("35: a third door stays", house.exchange(2, 1, 3), 1);
    Check.is("35: the second one has nothing", house.pins(1, 0), 0);
  }

  private static void exchangeRefuses() {
    Check.Setting control = x -> {
      cores(x);
      x.setControl(3);
    };
    int[][] none = {{3, 0, 3}, {-1, 0, 3}, {0, 3, 3}, {0, -1, 3}, {0, 1, 4}, {0, 0, -1}};
    for (int[] row : none) {
      Check.refuses("35: no door or key", Check.INDEX, control, x -> x.exchange(row[0], row[1], row[2]));
    }
    Check.refuses("35: both are the same", Check.ILLEGAL, control, x -> x.exchange(1, 1, 3));
    Check.refuses("35: the same, and not the control key", Check.ILLEGAL, control, x -> x.exchange(0, 0, 0));
    Check.refuses("35: not the control key", Check.UNSUPPORTED, control, x -> x.exchange(0, 1, 0));
    Check.refuses("35: there is no control key", Check.UNSUPPORTED, CoresTest::cores, x -> x.exchange(0, 1, 0));
    Check.refuses("35: the control key is lost", Check.UNSUPPORTED, x -> {
      control.of(x);
      x.lose(3);
    }, x -> x.exchange(0, 1, 3));
  }

  /** Of five doors, the door 3 is opened by two lost keys, 1 and 4 by one, 0 and 2 by none. */
  private static void unsafeDoors(KeyWard house) {
    Check.smallKeys(house, 4);
    Check.doors(house, 5);
    house.wish(1, 0, true);
    house.wish(3, 1, true);
    house.wish(3, 2, true);
    house.wish(0, 3, true);
    house.setBuilding(4, 1);
    house.lose(0);
    house.lose(1);
    house.wish(3, 0, false);
  }

  private static void countsDays() {
    KeyWard house = Check.made(CoresTest::unsafeDoors);
    Check.is("36: one a day", house.planDays(1), 3);
    Check.is("36: two a day", house.planDays(2), 2);
    Check.is("36: three a day", house.planDays(3), 1);
    Check.is("36: ten a day", house.planDays(10), 1);
    Check.is("36: none is unsafe", Check.made(CoresTest::cores).planDays(1), 0);
    Check.refuses("36: limit 0", Check.ILLEGAL, CoresTest::unsafeDoors, x -> x.planDays(0));
    Check.refuses("36: limit -1", Check.ILLEGAL, CoresTest::unsafeDoors, x -> x.planDays(-1));
    Check.refuses("36: limit 11", Check.ILLEGAL, CoresTest::unsafeDoors, x -> x.planDays(11));
  }

  private static void tellsPlan() {
    KeyWard house = Check.made(CoresTest::unsafeDoors);
    Check.is("37: the door that two lost keys open", house.planAt(1, 0, 0), 3);
    Check.is("37: the lower number", house.planAt(1, 1, 0), 1);
    Check.is("37: the higher number", house.planAt(1, 2, 0), 4);
    Check.is("37: the second place", house.planAt(2, 0, 1), 1);
    Check.is("37: the second day", house.planAt(2, 1, 0), 4);
    Check.is("37: all on one day", house.planAt(10, 0, 2), 4);
    house.lose(3);
    Check.is("37: doors that more lost keys open", house.planAt(10, 0, 0), 3);
    Check.is("37: then by rising numbers", house.planAt(10, 0, 1), 0);
  }

  private static void planRefuses() {
    Check.Setting five = CoresTest::unsafeDoors;
    Check.refuses("37: limit 0", Check.ILLEGAL, five, x -> x.planAt(0, 0, 0));
    Check.refuses("37: limit 11, and no such day", Check.ILLEGAL, five, x -> x.planAt(11, 9, 0));
    Check.refuses("37: day 3 of 3", Check.MISSING, five, x -> x.planAt(1, 3, 0));
    Check.refuses("37: day -1", Check.MISSING, five, x -> x.planAt(1, -1, 1));
    Check.refuses("37: place 1 of 1", Check.MISSING, five, x -> x.planAt(1, 0, 1));
    Check.refuses("37: place -1", Check.MISSING, five, x -> x.planAt(2, 1, -1));
    Check.refuses("37: place 2 of 2", Check.MISSING, five, x -> x.planAt(2, 0, 2));
    Check.refuses("37: the last day is not full", Check.MISSING, five, x -> x.planAt(2, 1, 1));
    Check.refuses("37: there is no day", Check.MISSING, CoresTest::cores, x -> x.planAt(1, 0, 0));
    Check.refuses("37: a day far off", Check.MISSING, five, x -> x.planAt(10, Integer.MAX_VALUE, 0));
  }
}
