/** The edges that the promises 18 to 24, and the terms of mixing, name. */
public final class ProfilesEdgesTest {
  public static void main(String[] args) {
    setBlankEnds();
    profileOfEnds();
    setWardEnds();
    setWardByProfile();
    setThinEnds();
    thinEnds();
    pinsNeededEnds();
    bothEnds();
    bothRefused();
    Check.end();
  }

  private static void setBlankEnds() {
    KeyWard house = new KeyWard();
    Check.is("18: the last profile, 0 before", house.setBlank(7), 0);
    Check.is("18: the first profile, 7 before", house.setBlank(0), 7);
    Check.refusesOutside("18: profile", Check.ILLEGAL, 0, 7, x -> x.setBlank(5), KeyWard::setBlank);
  }

  private static void profileOfEnds() {
    KeyWard house = Check.made(Check::nearlyFull);
    house.setBlank(7);
    Check.key(house, 0, 0, 0);
    Check.is("19: the last key, the last profile", house.profileOf(15), 7);
    Check.is("19: the first key, the first profile", house.profileOf(0), 0);
    Check.refusesOutside("19: key", Check.INDEX, 0, 15, Check::full, KeyWard::profileOf);
  }

  private static void setWardEnds() {
    KeyWard house = Check.made(Check::full);
    Check.is("20: the last door, the last ward", house.setWard(9, 7), 0);
    Check.is("20: the last door, the first ward", house.setWard(9, 0), 7);
    Check.refusesOutside("20: door", Check.INDEX, 0, 9, Check::full, (x, n) -> x.setWard(n, 1));
    Check.refusesOutside("20: ward", Check.ILLEGAL, 0, 7, Check::full, (x, n) -> x.setWard(0, n));
    Check.refuses("20: no such door is ahead of no such ward", Check.INDEX, Check::full, x -> x.setWard(10, 8));
  }

  private static void setWardByProfile() {
    for (int i = 0; i < 64; i++) {
      int profile = i / 8;
      int ward = i % 8;
      Check.Setting setting = x -> {
        x.machine(3, 2, 1);
        x.addDoor();
        x.setBlank(profile);
        x.wish(0, Check.key(x, 0, 0, 0), true);
      };
      String what = "20: profile " + profile + ", ward " + ward;
      if ((profile & ward) == 0) {
        Check.is(what, Check.made(setting).setWard(0, ward), 0);
      } else {
        Check.refuses(what, Check.UNSUPPORTED, setting, x -> x.setWard(0, ward));
        Check.refuses(what + " and 8 is no ward", Check.ILLEGAL, setting, x -> x.setWard(0, ward + 8));
      }
    }
    Check.refuses("20: one of 16 keys would not fit", Check.UNSUPPORTED, x -> {
      Check.nearlyFull(x);
      x.setBlank(4);
      Check.key(x, 5, 5, 5);
      for (int i = 0; i < 16; i++) {
        x.wish(9, i, true);
      }
    }, x -> x.setWard(9, 4));
    KeyWard stray = Check.made(x -> x.machine(3, 2, 1));
    stray.addDoor();
    stray.wish(0, Check.key(stray, 0, 0, 0), true);
    stray.setBlank(1);
    Check.key(stray, 0, 0, 0);
    Check.is("20: a stray need not fit", stray.setWard(0, 1), 0);
    Check.is("20: it is a stray no more", stray.strays(0), 0);
  }

  private static void setThinEnds() {
    KeyWard house = Check.made(Check::full);
    Check.is("21: they were fine at first", house.setThin(true), true);
    Check.is("21: they were fine", house.setThin(false), true);
    Check.is("21: they were not", house.setThin(true), false);
  }

  private static void thinEnds() {
    KeyWard house = Check.made(x -> x.machine(6, 6, 5));
    Check.doors(house, 10);
    Check.is("22: no key", house.thin(9), 0);
    house.wish(9, Check.key(house, 5, 0, 5, 0, 5, 0), true);
    Check.is("22: depth 5 beside a chamber with 0", house.thin(9), 0);
    house.wish(9, Check.key(house, 3, 2, 3, 2, 3, 2), true);
    Check.is("22: depths that differ by 2", house.thin(9), 0);
    house.wish(9, Check.key(house, 5, 0, 5, 0, 5, 1), true);
    Check.is("22: the last chamber", house.thin(9), 1);
    house.wish(9, Check.key(house, 4, 0, 5, 0, 5, 0), true);
    Check.is("22: the first chamber, depths 4 and 5", house.thin(9), 2);
    house.wish(9, Check.key(house, 4, 1, 4, 1, 4, 1), true);
    Check.is("22: all chambers", house.thin(9), 6);
    Check.is("22: another door", house.thin(8), 0);
    Check.refusesOutside("22: door", Check.INDEX, 0, 9, Check::full, KeyWard::thin);
  }

  private static void pinsNeededEnds() {
    Check.is("23: no door", new KeyWard().pinsNeeded(), 0);
    KeyWard house = Check.made(x -> x.machine(6, 6, 5));
    Check.doors(house, 10);
    Check.is("23: ten doors without wishes", house.pinsNeeded(), 0);
    for (int i = 0; i < 6; i++) {
      Check.key(house, i, i, i, i, i, i);
      for (int d = 0; d < 10; d++) {
        house.wish(d, i, true);
        Check.is("23: up to the door " + d + " and the key " + i, house.pinsNeeded(),
            i == 0 ? 12 * (d + 1) : 60 * (i + 1) + 6 * (d + 1));
      }
    }
    house.wish(0, 0, false);
    Check.is("23: six pins less", house.pinsNeeded(), 414);
  }

  private static void bothEnds() {
    int[][] rows = {
      {0, 3, 2, 1, 8}, {0, 3, 2, 0, 2}, {0, 1, 6, 4, 194}, {0, 1, 6, 5, 216}, {0, 1, 1, 0, 1},
      {5, 1, 1, 0, 1}, {5, 3, 6, 5, 1}, {0, 2, 6, 5, 27}, {2, 3, 6, 5, 8}, {3, 3, 6, 5, 1}
    };
    for (int[] row : rows) {
      KeyWard house = Check.made(x -> x.machine(3, 6, 5));
      String what = "24: first " + row[0] + ", step " + row[1] + ", depths " + row[2] + ", apart " + row[3];
      Check.is(what, house.both(row[0], row[1], row[2], row[3]), row[4]);
    }
    Check.is("24: a step is further than this machine allows",
        Check.made(x -> x.machine(3, 6, 2)).both(0, 3, 6, 5), 2);
    Check.is("24: a step is as far as this machine allows",
        Check.made(x -> x.machine(3, 6, 3)).both(0, 3, 6, 5), 8);
    Check.is("24: all keys of the largest machine",
        Check.made(x -> x.machine(6, 6, 5)).both(0, 1, 6, 5), 46656);
    Check.is("24: keys and doors do not count", Check.made(Check::full).both(0, 1, 6, 5), 216);
  }

  private static void bothRefused() {
    for (int depths = 2; depths <= 6; depths++) {
      int most = depths;
      Check.Setting machine = x -> x.machine(3, most, 5);
      Check.is("24: the last depth of " + depths, Check.made(machine).both(most - 1, 1, 1, 0), 1);
      Check.refusesOutside("24: first of " + depths, Check.ILLEGAL, 0, depths - 1, machine, (x, n) -> x.both(n, 1, 1, 0));
    }
    Check.refusesOutside("24: step", Check.ILLEGAL, 1, 3, Check::full, (x, n) -> x.both(0, n, 2, 1));
    Check.refusesOutside("24: depths", Check.ILLEGAL, 1, 6, Check::full, (x, n) -> x.both(0, 1, n, 1));
    Check.refusesOutside("24: apart", Check.ILLEGAL, 0, 5, Check::full, (x, n) -> x.both(0, 1, 2, n));
  }
}
