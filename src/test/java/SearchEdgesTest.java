/** The edges that the promises 14 to 17, and the terms of searching and of lost keys, name. */
public final class SearchEdgesTest {
  public static void main(String[] args) {
    findForDoors();
    findFirstAndLast();
    findSixteenth();
    findNone();
    findBesideBlocks();
    findThinAtTheEnds();
    findWithStraysAhead();
    findByProfile();
    loseEnds();
    lostKeys();
    unsafeEnds();
    replaceEnds();
    replaceRefused();
    Check.end();
  }

  private static void found(String what, KeyWard house, int key, int... depths) {
    for (int c = 0; c < depths.length; c++) {
      Check.is(what + ", chamber " + c, house.depthOf(key, c), depths[c]);
    }
  }

  private static void findForDoors() {
    KeyWard house = Check.made(x -> x.machine(3, 3, 1));
    Check.doors(house, 10);
    Check.is("14: all 10 doors", house.find(1023), 0);
    for (int i = 0; i < 10; i++) {
      Check.is("14: wished for door " + i, house.isWished(i, 0), true);
    }
    Check.is("14: the last door alone", house.find(512), 1);
    for (int i = 0; i < 10; i++) {
      Check.is("14: wished for door " + i, house.isWished(i, 1), i == 9);
    }
    for (int doors = 0; doors <= 10; doors++) {
      int count = doors;
      Check.refusesOutside("14: doors", Check.ILLEGAL, 1, (1 << count) - 1, x -> {
        x.machine(3, 3, 1);
        Check.doors(x, count);
      }, KeyWard::find);
    }
  }

  private static void findFirstAndLast() {
    KeyWard house = Check.made(x -> x.machine(3, 2, 1));
    Check.doors(house, 1);
    for (int i = 0; i < 8; i++) {
      Check.is("14: the next key", house.find(1), i);
      found("14: the next key", house, i, i >> 2, i >> 1 & 1, i & 1);
    }
    KeyWard last = Check.made(x -> Check.smallKeys(x, 15));
    last.addDoor();
    Check.is("14: the last key of all", last.find(1), 15);
    found("14: the last key of all", last, 15, 1, 1, 1, 1);
    KeyWard six = Check.made(x -> x.machine(6, 6, 5));
    six.addDoor();
    Check.block(six, 0);
    Check.block(six, 1);
    Check.block(six, 2);
    six.find(1);
    found("14: the first one ahead of all others", six, 0, 3, 0, 0, 0, 0, 0);
    six.find(1);
    found("14: the next one", six, 1, 3, 0, 0, 0, 0, 1);
  }

  private static void findSixteenth() {
    KeyWard house = Check.made(Check::nearlyFull);
    Check.is("14: the 16th key", house.find(512), 15);
    found("14: the 16th key", house, 15, 0, 0, 1);
    Check.refuses("14: a 17th key", Check.STATE, Check::full, x -> x.find(1));
    Check.refuses("14: a 17th key for all doors", Check.STATE, Check::full, x -> x.find(1023));
    Check.refuses("14: 16 keys, no such doors is first", Check.ILLEGAL, Check::full, x -> x.find(1024));
    Check.refuses("14: 16 keys, no such key is first", Check.MISSING, x -> {
      Check.full(x);
      x.setWard(9, 1);
      x.setBlank(1);
    }, x -> x.find(512));
  }

  private static void findNone() {
    Check.refuses("14: all that could be cut are there", Check.MISSING, x -> {
      x.addDoor();
      x.machine(3, 2, 1);
      for (int i = 0; i < 8; i++) {
        Check.key(x, i >> 2, i >> 1 & 1, i & 1);
      }
    }, x -> x.find(1));
    Check.refuses("14: all that could be cut are in blocks", Check.MISSING, x -> {
      x.addDoor();
      x.machine(3, 2, 1);
      Check.block(x, 0);
      Check.block(x, 1);
    }, x -> x.find(1));
    Check.refuses("14: no such doors is ahead of no such key", Check.ILLEGAL, x -> {
      x.addDoor();
      x.machine(3, 2, 1);
      Check.block(x, 0);
      Check.block(x, 1);
    }, x -> x.find(0));
    Check.refuses("14: another door lets all in", Check.MISSING, x -> {
      Check.doors(x, 2);
      x.machine(3, 2, 1);
      x.wish(0, Check.key(x, 0, 0, 0), true);
      x.wish(0, Check.key(x, 1, 1, 1), true);
    }, x -> x.find(2));
  }

  private static void findBesideBlocks() {
    KeyWard house = Check.made(x -> x.machine(3, 2, 1));
    house.addDoor();
    Check.block(house, 0, 0, 0);
    Check.block(house, 0, 1);
    Check.block(house, 1, 0);
    Check.block(house, 1, 1, 1);
    Check.is("14: beside a block of one key", house.find(1), 0);
    found("14: beside a block of one key", house, 0, 0, 0, 1);
    Check.is("14: between blocks", house.find(1), 1);
    found("14: between blocks", house, 1, 1, 1, 0);
    Check.refuses("14: a block is kept for each profile", Check.MISSING, x -> {
      x.machine(3, 2, 1);
      x.addDoor();
      Check.block(x, 0);
      Check.block(x, 1);
      x.setBlank(7);
    }, x -> x.find(1));
  }

  private static void findThinAtTheEnds() {
    KeyWard low = Check.made(x -> x.machine(3, 6, 5));
    low.addDoor();
    low.wish(0, Check.key(low, 0, 5, 0), true);
    low.setThin(false);
    low.find(1);
    found("14: neither 1 beside 0 nor 4 beside 5, but 0 and 5 again", low, 1, 0, 0, 0);
    low.find(1);
    found("14: a difference of 2 is not thin", low, 2, 0, 0, 2);
    KeyWard six = Check.made(x -> x.machine(6, 6, 5));
    six.addDoor();
    six.setThin(false);
    six.wish(0, Check.key(six, 5, 0, 5, 0, 5, 0), true);
    six.find(1);
    found("14: depth 5 beside a chamber with 0 is not thin", six, 1, 0, 0, 0, 0, 0, 0);
    Check.refuses("14: a door is thin ahead of this", Check.MISSING, x -> {
      x.machine(3, 6, 5);
      Check.doors(x, 2);
      x.wish(1, Check.key(x, 0, 0, 4), true);
      x.wish(1, Check.key(x, 0, 0, 5), true);
      x.setThin(false);
    }, x -> x.find(1));
    Check.refuses("14: depth 1 is left beside 0 and 2", Check.MISSING, x -> {
      x.machine(3, 2, 1);
      x.addDoor();
      x.wish(0, Check.key(x, 0, 0, 0), true);
      x.setThin(false);
    }, x -> x.find(1));
  }

  private static void findWithStraysAhead() {
    Check.Setting stray = x -> {
      x.machine(3, 2, 1);
      Check.doors(x, 10);
      x.wish(9, Check.key(x, 0, 0, 1), true);
      x.wish(9, Check.key(x, 0, 1, 0), true);
      Check.key(x, 0, 1, 1);
    };
    Check.refuses("14: a stray was there ahead of this", Check.MISSING, stray, x -> x.find(1));
    Check.refuses("14: at the door itself", Check.MISSING, stray, x -> x.find(512));
    Check.refuses("14: a lost one counts, too", Check.MISSING, x -> {
      stray.of(x);
      x.lose(2);
    }, x -> x.find(1));
    Check.refuses("14: a stray that is the building key counts, too", Check.MISSING, x -> {
      stray.of(x);
      x.setBuilding(9, 2);
    }, x -> x.find(1));
    KeyWard wished = Check.made(stray);
    wished.wish(9, 2, true);
    Check.is("14: the stray is wished", wished.find(1), 3);
    found("14: not 0 0 0, a stray of the last door", wished, 3, 1, 0, 0);
  }

  private static void findByProfile() {
    for (int i = 0; i < 64; i++) {
      int profile = i / 8;
      int ward = i % 8;
      Check.Setting setting = x -> {
        x.machine(3, 2, 1);
        Check.doors(x, 3);
        x.setWard(1, ward);
        x.setBlank(profile);
      };
      String what = "14: profile " + profile + ", ward " + ward;
      if ((profile & ward) == 0) {
        Check.is(what, Check.made(setting).find(7), 0);
      } else {
        Check.refuses(what, Check.MISSING, setting, x -> x.find(7));
        Check.is(what + ", not that door", Check.made(setting).find(5), 0);
      }
    }
  }

  private static void loseEnds() {
    KeyWard house = Check.made(Check::full);
    for (int i = 0; i < 10; i++) {
      house.wish(i, 15, true);
    }
    Check.is("15: the last key opens all doors", house.lose(15), 10);
    Check.is("15: the first key opens none", house.lose(0), 0);
    KeyWard bare = Check.made(x -> Check.smallKeys(x, 1));
    Check.is("15: there is no door", bare.lose(0), 0);
    Check.refusesOutside("15: key", Check.INDEX, 0, 15, Check::full, KeyWard::lose);
    Check.refuses("15: the last key was lost", Check.UNSUPPORTED, x -> {
      Check.full(x);
      x.lose(15);
    }, x -> x.lose(15));
  }

  private static void lostKeys() {
    Check.Setting lost = x -> {
      x.machine(3, 2, 1);
      Check.doors(x, 2);
      Check.persons(x, 1);
      x.wish(0, Check.key(x, 0, 0, 0), true);
      x.lend(0, 0, 1);
      x.lose(0);
    };
    Check.refuses("15: a lost key is wished for no more doors", Check.UNSUPPORTED, lost, x -> x.wish(1, 0, true));
    Check.refuses("15: a lost key cannot be lent", Check.UNSUPPORTED, lost, x -> x.lend(0, 0, 1));
    Check.refuses("15: a lost key cannot be brought back", Check.UNSUPPORTED, lost, x -> x.bring(0));
    KeyWard house = Check.made(lost);
    Check.is("15: a lost key is not found again", house.find(2), 1);
    found("15: a lost key is not found again", house, 1, 0, 0, 1);
    Check.is("15: a lost key is wished still", house.isWished(0, 0), true);
    Check.is("15: a lost key opens still", house.opens(0, 0), true);
  }

  private static void unsafeEnds() {
    KeyWard house = Check.made(Check::full);
    Check.is("16: none", house.unsafe(), 0);
    for (int i = 0; i < 10; i++) {
      house.wish(i, i, true);
    }
    for (int i = 0; i < 10; i++) {
      house.lose(i);
      Check.is("16: doors up to " + i, house.unsafe(), i + 1);
    }
    Check.is("16: no door", new KeyWard().unsafe(), 0);
    Check.is("16: doors without wishes", Check.made(x -> Check.doors(x, 10)).unsafe(), 0);
    KeyWard ward = Check.made(x -> x.machine(3, 2, 1));
    ward.addDoor();
    ward.wish(0, Check.key(ward, 0, 0, 0), true);
    ward.setBlank(1);
    ward.lose(Check.key(ward, 0, 0, 0));
    Check.is("16: a lost stray", ward.unsafe(), 1);
    ward.setWard(0, 1);
    Check.is("16: a lost key that does not fit", ward.unsafe(), 0);
    ward.wish(0, 0, false);
    ward.setWard(0, 0);
    Check.is("16: a door that is opened by none", ward.unsafe(), 0);
  }

  private static void replaceEnds() {
    KeyWard house = Check.made(Check::nearlyFull);
    for (int i = 0; i < 10; i++) {
      house.wish(i, 14, true);
    }
    house.lose(14);
    Check.is("17: the 16th key", house.replace(14), 15);
    for (int i = 0; i < 10; i++) {
      Check.is("17: the new one is wished for door " + i, house.isWished(i, 15), true);
      Check.is("17: the lost one is not for door " + i, house.isWished(i, 14), false);
    }
    KeyWard last = Check.made(x -> Check.smallKeys(x, 15));
    Check.doors(last, 10);
    last.wish(9, 0, true);
    last.lose(0);
    Check.is("17: the last door, the last key of all", last.replace(0), 15);
    Check.is("17: the last door", last.isWished(9, 15), true);
    Check.is("17: another door", last.isWished(8, 15), false);
  }

  private static void replaceRefused() {
    Check.refusesOutside("17: key", Check.INDEX, 0, 15, Check::full, KeyWard::replace);
    Check.Setting wished = x -> {
      Check.full(x);
      x.wish(9, 15, true);
    };
    Check.Setting lost = x -> {
      wished.of(x);
      x.lose(15);
    };
    Check.refuses("17: it is wished, and not lost", Check.UNSUPPORTED, wished, x -> x.replace(15));
    Check.refuses("17: it is neither", Check.UNSUPPORTED, wished, x -> x.replace(0));
    Check.refuses("17: it is lost, and not wished", Check.UNSUPPORTED, x -> {
      lost.of(x);
      x.wish(9, 15, false);
    }, x -> x.replace(15));
    Check.refuses("17: there is no door at all", Check.UNSUPPORTED, x -> {
      Check.smallKeys(x, 1);
      x.lose(0);
    }, x -> x.replace(0));
    Check.refuses("17: 16 keys", Check.STATE, lost, x -> x.replace(15));
    Check.refuses("17: 16 keys, no new key is first", Check.MISSING, x -> {
      lost.of(x);
      x.setWard(9, 4);
      x.setBlank(4);
    }, x -> x.replace(15));
    Check.refuses("17: not lost is ahead of no new key", Check.UNSUPPORTED, x -> {
      wished.of(x);
      x.setWard(9, 4);
      x.setBlank(4);
    }, x -> x.replace(15));
    Check.refuses("17: it was replaced", Check.UNSUPPORTED, x -> {
      x.machine(3, 2, 1);
      x.addDoor();
      x.find(1);
      x.lose(0);
      x.replace(0);
    }, x -> x.replace(0));
    Check.refuses("17: no new key, and all wishes stay", Check.MISSING, x -> {
      x.machine(3, 2, 1);
      Check.doors(x, 2);
      x.find(3);
      x.lose(0);
      Check.block(x, 0);
      Check.block(x, 1);
    }, x -> x.replace(0));
  }
}
