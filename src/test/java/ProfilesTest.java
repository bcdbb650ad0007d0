/** The promises 18 to 24. */
public final class ProfilesTest {
  public static void main(String[] args) {
    setsBlank();
    tellsProfiles();
    setsWards();
    wardRefuses();
    setsThin();
    countsThin();
    countsPins();
    countsBoth();
    bothRefuses();
    Check.end();
  }

  private static void setsBlank() {
    KeyWard house = new KeyWard();
    Check.is("18: the one before", house.setBlank(7), 0);
    Check.is("18: the one before", house.setBlank(3), 7);
    Check.is("18: the same one", house.setBlank(3), 3);
    Check.refuses("18: profile 8", Check.ILLEGAL, x -> x.setBlank(5), x -> x.setBlank(8));
    Check.refuses("18: profile -1", Check.ILLEGAL, x -> x.setBlank(5), x -> x.setBlank(-1));
  }

  private static void tellsProfiles() {
    KeyWard house = new KeyWard();
    int thin = Check.key(house, 0, 0, 0, 0, 0);
    house.setBlank(6);
    int thick = Check.key(house, 0, 0, 0, 0, 0);
    house.setBlank(1);
    Check.is("19: the key of the first blank", house.profileOf(thin), 0);
    Check.is("19: the key of the second blank", house.profileOf(thick), 6);
    Check.Setting one = x -> Check.key(x, 0, 0, 0, 0, 0);
    Check.refuses("19: key 1 of 1", Check.INDEX, one, x -> x.profileOf(1));
    Check.refuses("19: key -1", Check.INDEX, one, x -> x.profileOf(-1));
  }

  /** The key 0 is thick at 4, and wished for the door 0; the key 1 is not thick. */
  private static void thick(KeyWard house) {
    Check.doors(house, 2);
    house.setBlank(4);
    house.wish(0, Check.key(house, 0, 0, 0, 0, 0), true);
    house.setBlank(0);
    Check.key(house, 0, 0, 0, 0, 0);
  }

  private static void setsWards() {
    KeyWard house = Check.made(ProfilesTest::thick);
    Check.is("20: 0 at first", house.setWard(0, 3), 0);
    Check.is("20: the one before", house.setWard(0, 1), 3);
    Check.is("20: a key that is wished for another door", house.setWard(1, 7), 0);
    Check.is("20: it does not open the other door", house.opens(1, 0), false);
    house.wish(0, 0, false);
    Check.is("20: no key is wished any more", house.setWard(0, 4), 1);
    house.wish(0, 1, true);
    Check.is("20: a key without profile fits all", house.setWard(0, 7), 4);
    house.setWard(1, 0);
    house.setBuilding(1, 0);
    Check.is("20: a building key need not fit", house.setWard(1, 4), 0);
  }

  private static void wardRefuses() {
    Check.refuses("20: door 2 of 2", Check.INDEX, ProfilesTest::thick, x -> x.setWard(2, 0));
    Check.refuses("20: door -1, and ward 8", Check.INDEX, ProfilesTest::thick, x -> x.setWard(-1, 8));
    Check.refuses("20: ward 8", Check.ILLEGAL, ProfilesTest::thick, x -> x.setWard(1, 8));
    Check.refuses("20: ward -1, and the key would not fit", Check.ILLEGAL, ProfilesTest::thick, x -> x.setWard(0, -1));
    Check.refuses("20: the key would not fit", Check.UNSUPPORTED, ProfilesTest::thick, x -> x.setWard(0, 4));
    Check.refuses("20: the key would not fit", Check.UNSUPPORTED, ProfilesTest::thick, x -> x.setWard(0, 6));
    Check.refuses("20: the lost key would not fit", Check.UNSUPPORTED, x -> {
      thick(x);
      x.lose(0);
    }, x -> x.setWard(0, 4));
  }

  private static void setsThin() {
    KeyWard house = new KeyWard();
    Check.is("21: fine at first", house.setThin(false), true);
    Check.is("21: not fine", house.setThin(false), false);
    Check.is("21: fine again", house.setThin(true), false);
    Check.is("21: still fine", house.setThin(true), true);
  }

  private static void countsThin() {
    KeyWard house = Check.made(x -> Check.doors(x, 2));
    Check.is("22: no key", house.thin(0), 0);
    house.wish(0, Check.key(house, 0, 1, 2, 3, 4), true);
    Check.is("22: one key", house.thin(0), 0);
    house.wish(0, Check.key(house, 1, 1, 0, 3, 3), true);
    Check.is("22: the first and the last chamber", house.thin(0), 2);
    house.wish(0, Check.key(house, 2, 3, 1, 1, 2), true);
    Check.is("22: three depths are one thin chamber", house.thin(0), 3);
    Check.is("22: another door", house.thin(1), 0);
    house.setThin(false);
    Check.is("22: whether they are fine or not", house.thin(0), 3);
    Check.refuses("22: door 1 of 1", Check.INDEX, KeyWard::addDoor, x -> x.thin(1));
    Check.refuses("22: door -1", Check.INDEX, KeyWard::addDoor, x -> x.thin(-1));
  }

  private static void countsPins() {
    KeyWard house = Check.made(x -> Check.doors(x, 3));
    Check.is("23: no key is wished", house.pinsNeeded(), 0);
    house.wish(0, Check.key(house, 0, 1, 2, 3, 4), true);
    Check.is("23: 5 times 1 and 1 more", house.pinsNeeded(), 10);
    house.wish(0, Check.key(house, 0, 1, 2, 3, 2), true);
    Check.is("23: one depth more", house.pinsNeeded(), 11);
    house.wish(2, 0, true);
    Check.is("23: another door, too", house.pinsNeeded(), 21);
    house.setBuilding(1, 0);
    Check.is("23: a building key needs none", house.pinsNeeded(), 21);
    house.wish(0, 0, false);
    Check.is("23: a wish less", house.pinsNeeded(), 20);
  }

  private static void countsBoth() {
    KeyWard house = Check.made(x -> x.machine(3, 6, 5));
    Check.is("24: the same machine", house.both(0, 1, 6, 5), 216);
    Check.is("24: depths 0, 2 and 4, side by side one step", house.both(0, 2, 3, 1), 17);
    Check.is("24: depths 1 and 4, all the same", house.both(1, 3, 2, 0), 2);
    Check.is("24: one depth", house.both(5, 1, 1, 0), 1);
    Check.is("24: depths beyond this machine", house.both(5, 3, 6, 5), 1);
    Check.is("24: depths 3 and 5", house.both(3, 2, 6, 5), 8);
    house.machine(4, 5, 1);
    Check.is("24: this machine allows less", house.both(0, 2, 3, 1), 3);
    Check.is("24: this machine allows as much", house.both(0, 1, 5, 1), 95);
    house.machine(3, 4, 2);
    Check.is("24: it allows less than this one", house.both(0, 1, 4, 1), 26);
    Check.is("24: it allows no steps", house.both(0, 1, 4, 0), 4);
    house.cut(1);
    house.both(0, 1, 4, 1);
    Check.is("24: depths that are told stay", house.forget(), 1);
  }

  private static void bothRefuses() {
    int[][] wrong = {
      {-1, 1, 1, 0}, {5, 1, 1, 0}, {0, 0, 1, 0}, {0, 4, 1, 0}, {0, 1, 0, 0}, {0, 1, 7, 0},
      {0, 1, 1, -1}, {0, 1, 1, 6}, {0, Integer.MAX_VALUE, 6, 5}
    };
    for (int[] row : wrong) {
      Check.refuses("24: no such depth or number", Check.ILLEGAL, x -> {}, x -> x.both(row[0], row[1], row[2], row[3]));
    }
    Check.refuses("24: depth 2 of 2", Check.ILLEGAL, x -> x.machine(3, 2, 1), x -> x.both(2, 1, 1, 0));
  }
}
