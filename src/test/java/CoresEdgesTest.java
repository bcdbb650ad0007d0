/** The edges that the promises 32 to 37, and the terms of building keys and plans, name. */
public final class CoresEdgesTest {
  public static void main(String[] args) {
    setBuildingEnds();
    setBuildingRefused();
    useEnds();
    buildingKeyDies();
    setControlEnds();
    exchangeEnds();
    exchangeRefused();
    plansOfTen();
    plansOfNone();
    planRefused();
    Check.end();
  }

  private static void setBuildingEnds() {
    KeyWard house = Check.made(Check::full);
    Check.is("32: the last door, the last key, none before", house.setBuilding(9, 15), -1);
    Check.is("32: the first key in its place", house.setBuilding(9, 0), 15);
    Check.is("32: the key 0 before is not none", house.setBuilding(9, 15), 0);
    Check.is("32: another door has none", house.setBuilding(8, 15), -1);
    Check.is("32: it opens no third door", house.opens(7, 15), false);
    for (int i = 0; i < 64; i++) {
      int profile = i / 8;
      int ward = i % 8;
      KeyWard fit = Check.made(x -> x.setBlank(profile));
      fit.addDoor();
      Check.key(fit, 0, 0, 0, 0, 0);
      fit.setWard(0, ward);
      String what = "32: profile " + profile + ", ward " + ward;
      Check.is(what, fit.setBuilding(0, 0), -1);
      Check.is(what, fit.opens(0, 0), true);
      Check.is(what + ", no stray", fit.strays(0), 0);
    }
  }

  private static void setBuildingRefused() {
    Check.refusesOutside("32: door", Check.INDEX, 0, 9, Check::full, (x, n) -> x.setBuilding(n, 0));
    Check.refusesOutside("32: key", Check.INDEX, 0, 15, Check::full, (x, n) -> x.setBuilding(0, n));
    Check.Setting lost = x -> {
      Check.full(x);
      x.setBuilding(9, 0);
      x.lose(15);
    };
    Check.refuses("32: it is lost", Check.UNSUPPORTED, lost, x -> x.setBuilding(9, 15));
    Check.refuses("32: no such door is ahead of it", Check.INDEX, lost, x -> x.setBuilding(10, 15));
    Check.refuses("32: it is wished for the door", Check.UNSUPPORTED, x -> {
      Check.full(x);
      x.wish(9, 15, true);
    }, x -> x.setBuilding(9, 15));
    Check.refuses("32: it is the building key, and wished since", Check.UNSUPPORTED, x -> {
      Check.full(x);
      x.setBuilding(9, 15);
      x.wish(9, 15, true);
    }, x -> x.setBuilding(9, 15));
    Check.refuses("32: it is the building key, and lost since", Check.UNSUPPORTED, x -> {
      Check.full(x);
      x.setBuilding(9, 15);
      x.lose(15);
    }, x -> x.setBuilding(9, 15));
    KeyWard house = Check.made(Check::full);
    house.wish(8, 15, true);
    Check.is("32: it is wished for another door", house.setBuilding(9, 15), -1);
  }

  private static void useEnds() {
    KeyWard house = Check.made(Check::full);
    house.wish(9, 15, true);
    Check.is("33: the last door, the last key", house.use(9, 15), true);
    Check.is("33: another key", house.use(9, 14), false);
    Check.is("33: another door", house.use(8, 15), false);
    Check.refusesOutside("33: door", Check.INDEX, 0, 9, Check::full, (x, n) -> x.use(n, 0));
    Check.refusesOutside("33: key", Check.INDEX, 0, 15, Check::full, (x, n) -> x.use(0, n));
  }

  private static void buildingKeyDies() {
    Check.Setting living = x -> {
      Check.full(x);
      x.wish(9, 15, true);
      x.wish(9, 0, true);
      x.setBuilding(9, 5);
      x.setBuilding(8, 5);
    };
    KeyWard house = Check.made(living);
    Check.is("33: a stray is used", house.use(9, 3), true);
    Check.is("33: the building key is used", house.use(9, 5), true);
    Check.is("33: a key that opens not is used", house.use(9, 14), false);
    Check.is("33: the wished key is used at another door", house.use(8, 15), false);
    Check.is("33: it lives on", house.opens(9, 5), true);
    Check.is("33: the wished key is asked for, not used", house.opens(9, 15), true);
    Check.is("33: it lives on", house.opens(9, 5), true);
    Check.is("33: the wished key is used", house.use(9, 15), true);
    Check.is("33: it lives no more", house.opens(9, 5), false);
    Check.is("33: it lives at the other door", house.opens(8, 5), true);
    Check.is("33: a new one may be given", house.setBuilding(9, 5), -1);
    Check.is("33: a new one lives", house.use(9, 5), true);
  }

  private static void setControlEnds() {
    KeyWard house = Check.made(Check::full);
    Check.is("34: the last key, none before", house.setControl(15), -1);
    Check.is("34: the first key, the last before", house.setControl(0), 15);
    Check.is("34: the key 0 before is not none", house.setControl(1), 0);
    Check.refusesOutside("34: key", Check.INDEX, 0, 15, Check::full, KeyWard::setControl);
    Check.refuses("34: the last key is lost", Check.UNSUPPORTED, x -> {
      Check.full(x);
      x.setControl(0);
      x.lose(15);
    }, x -> x.setControl(15));
  }

  private static void exchangeEnds() {
    KeyWard house = Check.made(Check::full);
    house.setControl(15);
    for (int i = 0; i < 16; i++) {
      house.wish(9, i, true);
    }
    Check.is("35: the first door gets what the last has", house.exchange(0, 9, 15), 16);
    Check.is("35: and gives it back", house.exchange(0, 9, 15), 0);
    Check.is("35: the last door gets it again", house.wish(9, 15, true), 16);
    Check.is("35: what has nothing", house.exchange(3, 4, 15), 0);
    KeyWard core = Check.made(Check::full);
    core.setControl(0);
    core.setWard(9, 7);
    core.setBuilding(9, 15);
    core.wish(9, 14, true);
    Check.is("35: wishes", core.exchange(8, 9, 0), 1);
    Check.is("35: wards", core.setWard(8, 7), 7);
    Check.is("35: wards, the other way", core.setWard(9, 0), 0);
    Check.is("35: building keys", core.setBuilding(8, 15), 15);
    Check.is("35: building keys, the other way", core.setBuilding(9, 15), -1);
  }

  private static void exchangeRefused() {
    Check.Setting control = x -> {
      Check.full(x);
      x.setControl(0);
      x.wish(9, 3, true);
    };
    Check.refusesOutside("35: door", Check.INDEX, 0, 9, control, (x, n) -> x.exchange(n, 0, 0));
    Check.refusesOutside("35: other", Check.INDEX, 0, 9, control, (x, n) -> x.exchange(0, n, 0));
    Check.refusesOutside("35: key", Check.INDEX, 0, 15, control, (x, n) -> x.exchange(0, 9, n));
    Check.refuses("35: no such doors, both the same", Check.INDEX, control, x -> x.exchange(10, 10, 0));
    Check.refuses("35: both the same, no such key", Check.INDEX, control, x -> x.exchange(9, 9, 16));
    Check.refuses("35: no such door, not the control key", Check.INDEX, control, x -> x.exchange(9, 10, 1));
    Check.refuses("35: both the same, not the control key", Check.ILLEGAL, control, x -> x.exchange(9, 9, 1));
    Check.refuses("35: both the same", Check.ILLEGAL, control, x -> x.exchange(9, 9, 0));
    Check.refuses("35: not the control key", Check.UNSUPPORTED, control, x -> x.exchange(0, 9, 15));
    Check.refuses("35: not the control key any more", Check.UNSUPPORTED, x -> {
      control.of(x);
      x.setControl(1);
    }, x -> x.exchange(0, 9, 0));
    Check.refuses("35: no control key", Check.UNSUPPORTED, Check::full, x -> x.exchange(0, 9, 0));
    Check.refuses("35: the control key is lost", Check.UNSUPPORTED, x -> {
      control.of(x);
      x.lose(0);
    }, x -> x.exchange(0, 9, 0));
    Check.refuses("35: both the same, and the control key lost", Check.ILLEGAL, x -> {
      control.of(x);
      x.lose(0);
    }, x -> x.exchange(9, 9, 0));
  }

  /** Ten unsafe doors: two lost keys open the door 9, one opens each other one. */
  private static void ten(KeyWard house) {
    Check.full(house);
    for (int i = 0; i < 10; i++) {
      house.wish(i, 15, true);
    }
    house.wish(9, 14, true);
    house.lose(14);
    house.lose(15);
  }

  private static void plansOfTen() {
    KeyWard house = Check.made(CoresEdgesTest::ten);
    int[] days = {10, 5, 4, 3, 2, 2, 2, 2, 2, 1};
    for (int limit = 1; limit <= 10; limit++) {
      Check.is("36: days of ten doors, " + limit + " a day", house.planDays(limit), days[limit - 1]);
      for (int i = 0; i < 10; i++) {
        Check.is("37: ten doors, " + limit + " a day, number " + i,
            house.planAt(limit, i / limit, i % limit), i == 0 ? 9 : i - 1);
      }
    }
    int[] lastPlaces = {0, 1, 0, 1, 4, 3, 2, 1, 0, 9};
    for (int i = 0; i < 10; i++) {
      int limit = i + 1;
      int last = days[i] - 1;
      int after = lastPlaces[i] + 1;
      Check.refuses("37: after the last place, " + limit + " a day", Check.MISSING, CoresEdgesTest::ten, x -> x.planAt(limit, last, after));
      Check.refuses("37: the place after the limit", Check.MISSING, CoresEdgesTest::ten, x -> x.planAt(limit, 0, limit));
      Check.refuses("37: the day after the last", Check.MISSING, CoresEdgesTest::ten, x -> x.planAt(limit, last + 1, 0));
    }
  }

  private static void plansOfNone() {
    KeyWard house = Check.made(Check::full);
    for (int limit = 1; limit <= 10; limit++) {
      int each = limit;
      Check.is("36: no unsafe door, " + limit + " a day", house.planDays(limit), 0);
      Check.refuses("37: no unsafe door", Check.MISSING, Check::full, x -> x.planAt(each, 0, 0));
    }
    KeyWard one = Check.made(Check::full);
    one.wish(9, 15, true);
    one.lose(15);
    Check.is("36: one unsafe door, 1 a day", one.planDays(1), 1);
    Check.is("36: one unsafe door, 10 a day", one.planDays(10), 1);
    Check.is("37: the one unsafe door", one.planAt(10, 0, 0), 9);
    one.wish(9, 15, false);
    Check.is("36: it is opened by none", one.planDays(1), 0);
  }

  private static void planRefused() {
    Check.refusesOutside("36: limit", Check.ILLEGAL, 1, 10, CoresEdgesTest::ten, KeyWard::planDays);
    Check.refusesOutside("37: limit", Check.ILLEGAL, 1, 10, CoresEdgesTest::ten, (x, n) -> x.planAt(n, 0, 0));
    Check.refusesOutside("37: day", Check.MISSING, 0, 1, CoresEdgesTest::ten, (x, n) -> x.planAt(5, n, 0));
    Check.refusesOutside("37: place", Check.MISSING, 0, 4, CoresEdgesTest::ten, (x, n) -> x.planAt(5, 0, n));
    Check.refuses("37: the limit is ahead of the day", Check.ILLEGAL, CoresEdgesTest::ten, x -> x.planAt(0, -1, -1));
    Check.refuses("37: the limit is ahead of no plan", Check.ILLEGAL, Check::full, x -> x.planAt(11, 0, 0));
    Check.refuses("37: a place of the day after", Check.MISSING, CoresEdgesTest::ten, x -> x.planAt(5, 1, -5));
    Check.refuses("37: a place of the day before", Check.MISSING, CoresEdgesTest::ten, x -> x.planAt(5, -1, 5));
  }
}
