/** The promises 14 to 17. */
public final class SearchTest {
  public static void main(String[] args) {
    findsFirst();
    findsWithoutStrays();
    findsWhatFits();
    findsWithoutThin();
    findsOutsideBlocks();
    findRefuses();
    loses();
    countsUnsafe();
    replaces();
    replacesWithoutStrays();
    replaceRefuses();
    Check.end();
  }

  private static void found(String what, KeyWard house, int key, int... depths) {
    for (int c = 0; c < depths.length; c++) {
      Check.is(what + ", chamber " + c, house.depthOf(key, c), depths[c]);
    }
  }

  private static void house(KeyWard house, int doors) {
    house.machine(3, 3, 1);
    Check.doors(house, doors);
  }

  private static void findsFirst() {
    KeyWard house = Check.made(x -> house(x, 3));
    Check.is("14: the first key", house.find(5), 0);
    found("14: the first key", house, 0, 0, 0, 0);
    Check.is("14: wished for door 0", house.isWished(0, 0), true);
    Check.is("14: not for door 1", house.isWished(1, 0), false);
    Check.is("14: wished for door 2", house.isWished(2, 0), true);
    Check.is("14: the next key", house.find(2), 1);
    found("14: one that is not there", house, 1, 0, 0, 1);
    house.cut(1);
    Check.is("14: the depths that are told stay", house.find(2), 2);
    Check.is("14: the depths that are told stay", house.forget(), 1);
    KeyWard apart = Check.made(x -> house(x, 1));
    Check.key(apart, 0, 0, 0);
    Check.key(apart, 0, 0, 1);
    Check.is("14: not 0, 0, 2, as it cannot be cut", apart.find(1), 2);
    found("14: not 0, 0, 2, as it cannot be cut", apart, 2, 0, 1, 0);
  }

  private static void findsWithoutStrays() {
    KeyWard house = Check.made(x -> house(x, 2));
    house.wish(0, Check.key(house, 0, 0, 1), true);
    house.wish(0, Check.key(house, 1, 0, 0), true);
    Check.is("14: not as a stray of another door", house.find(2), 2);
    found("14: not as a stray of another door", house, 2, 0, 1, 0);
    KeyWard bare = Check.made(x -> house(x, 1));
    Check.key(bare, 0, 0, 0);
    bare.wish(0, Check.key(bare, 0, 0, 1), true);
    Check.is("14: no other key becomes a stray", bare.find(1), 2);
    found("14: no other key becomes a stray", bare, 2, 0, 1, 1);
    KeyWard lost = Check.made(x -> house(x, 1));
    lost.wish(0, Check.key(lost, 0, 0, 1), true);
    lost.lose(Check.key(lost, 0, 0, 0));
    found("14: no lost key becomes a stray", lost, lost.find(1), 0, 1, 1);
    KeyWard same = Check.made(x -> house(x, 1));
    same.setBlank(1);
    Check.key(same, 0, 0, 0);
    same.setBlank(2);
    found("14: one with the same depths would be a stray", same, same.find(1), 0, 0, 1);
    KeyWard warded = Check.made(x -> house(x, 1));
    warded.setBlank(1);
    Check.key(warded, 0, 0, 0);
    warded.setBlank(2);
    warded.setWard(0, 1);
    found("14: one that does not fit would not", warded, warded.find(1), 0, 0, 0);
    KeyWard building = Check.made(x -> house(x, 1));
    building.setBuilding(0, Check.key(building, 0, 0, 1));
    found("14: a building key counts for nothing", building, building.find(1), 0, 0, 0);
  }

  private static void findsWhatFits() {
    KeyWard house = Check.made(x -> house(x, 2));
    house.setWard(0, 1);
    house.setWard(1, 2);
    house.setBlank(2);
    house.wish(0, Check.key(house, 0, 0, 0), true);
    house.setBlank(1);
    Check.is("14: no stray, as it does not fit the other door", house.find(2), 1);
    found("14: no stray, as it does not fit the other door", house, 1, 0, 0, 0);
    Check.is("14: from the blank as it is", house.profileOf(1), 1);
    Check.refuses("14: it does not fit", Check.MISSING, x -> {
      house(x, 2);
      x.setWard(1, 6);
      x.setBlank(4);
    }, x -> x.find(3));
  }

  private static void findsWithoutThin() {
    KeyWard house = Check.made(x -> house(x, 2));
    house.find(1);
    house.setThin(false);
    Check.is("14: no thin chamber", house.find(1), 1);
    found("14: depths 0 and 2 alone, and 0 beside 2 cannot be cut", house, 1, 2, 2, 2);
    KeyWard fine = Check.made(x -> house(x, 2));
    fine.find(1);
    found("14: thin ones are fine", fine, fine.find(1), 0, 0, 1);
    Check.refuses("14: neither less nor more by 1", Check.MISSING, x -> {
      house(x, 1);
      x.wish(0, Check.key(x, 1, 1, 1), true);
      x.setThin(false);
    }, x -> x.find(1));
    Check.refuses("14: another door has a thin chamber", Check.MISSING, x -> {
      house(x, 2);
      x.find(1);
      x.find(1);
      x.setThin(false);
    }, x -> x.find(2));
  }

  private static void findsOutsideBlocks() {
    KeyWard house = Check.made(x -> house(x, 1));
    Check.block(house, 0);
    Check.block(house, 1, 0);
    Check.block(house, 1, 1, 0);
    Check.is("14: in no block", house.find(1), 0);
    found("14: in no block", house, 0, 1, 1, 1);
  }

  private static void findRefuses() {
    Check.Setting two = x -> house(x, 2);
    int[] wrong = {0, -1, 4, 5, 1024, Integer.MIN_VALUE, Integer.MAX_VALUE};
    for (int doors : wrong) {
      Check.refuses("14: no such doors", Check.ILLEGAL, two, x -> x.find(doors));
    }
    Check.refuses("14: no doors at all", Check.ILLEGAL, x -> {}, x -> x.find(1));
    Check.Setting stray = x -> {
      house(x, 2);
      x.wish(0, Check.key(x, 0, 0, 1), true);
      x.wish(0, Check.key(x, 1, 0, 0), true);
      Check.key(x, 0, 0, 0);
    };
    Check.refuses("14: a stray was there", Check.MISSING, stray, x -> x.find(1));
    Check.refuses("14: another door has a stray", Check.MISSING, stray, x -> x.find(2));
    Check.Setting all = x -> {
      x.addDoor();
      Check.smallKeys(x, 16);
    };
    Check.refuses("14: all are there, ahead of 16 keys", Check.MISSING, all, x -> x.find(1));
    Check.refuses("14: 16 keys, and no such doors", Check.ILLEGAL, all, x -> x.find(2));
    Check.refuses("14: 16 keys", Check.STATE, x -> {
      all.of(x);
      x.setBlank(1);
      x.setWard(0, 2);
      for (int i = 0; i < 16; i++) {
        x.wish(0, i, true);
      }
    }, x -> x.find(1));
  }

  /** The keys 0 and 1 are wished for the door 0; the key 1 for the door 1; the key 2 is a stray. */
  private static void strayed(KeyWard house) {
    house(house, 4);
    Check.key(house, 0, 0, 1);
    Check.key(house, 1, 0, 0);
    Check.key(house, 0, 0, 0);
    house.wish(0, 0, true);
    house.wish(0, 1, true);
    house.wish(1, 1, true);
  }

  private static void loses() {
    KeyWard house = Check.made(SearchTest::strayed);
    Check.is("15: the two doors for which it is wished", house.lose(1), 2);
    house.setBuilding(3, 2);
    Check.is("15: as a stray, and as a building key", house.lose(2), 2);
    house.wish(0, 0, false);
    Check.is("15: no door", house.lose(0), 0);
    Check.refuses("15: key 3 of 3", Check.INDEX, SearchTest::strayed, x -> x.lose(3));
    Check.refuses("15: key -1", Check.INDEX, SearchTest::strayed, x -> x.lose(-1));
    Check.refuses("15: it was lost", Check.UNSUPPORTED, x -> {
      strayed(x);
      x.lose(1);
    }, x -> x.lose(1));
  }

  private static void countsUnsafe() {
    KeyWard house = Check.made(SearchTest::strayed);
    Check.is("16: no key is lost", house.unsafe(), 0);
    house.setBuilding(3, 2);
    house.lose(2);
    Check.is("16: a stray that is a building key", house.unsafe(), 2);
    house.lose(1);
    Check.is("16: doors that two open count once", house.unsafe(), 3);
    house.wish(0, 0, false);
    house.wish(0, 1, false);
    Check.is("16: a door that is opened by none", house.unsafe(), 2);
    house.wish(1, 1, false);
    Check.is("16: the building key is left", house.unsafe(), 1);
  }

  private static void replaces() {
    KeyWard house = Check.made(x -> house(x, 4));
    house.find(5);
    house.find(8);
    house.lose(0);
    house.setBuilding(1, 1);
    house.cut(1);
    Check.is("17: the new key", house.replace(0), 2);
    found("17: the new key", house, 2, 0, 1, 0);
    Check.is("17: it is wished for door 0", house.isWished(0, 2), true);
    Check.is("17: not for door 1", house.isWished(1, 2), false);
    Check.is("17: it is wished for door 2", house.isWished(2, 2), true);
    Check.is("17: not for door 3", house.isWished(3, 2), false);
    Check.is("17: the lost one no more for door 0", house.isWished(0, 0), false);
    Check.is("17: the lost one no more for door 2", house.isWished(2, 0), false);
    Check.is("17: no door is unsafe", house.unsafe(), 0);
    Check.is("17: depths that are told stay", house.forget(), 1);
    house.lose(2);
    house.setBlank(1);
    Check.is("17: from the blank as it is", house.replace(2), 3);
    Check.is("17: from the blank as it is", house.profileOf(3), 1);
  }

  private static void replacesWithoutStrays() {
    KeyWard house = Check.made(x -> house(x, 1));
    house.find(1);
    house.wish(0, Check.key(house, 0, 1, 0), true);
    house.lose(0);
    Check.is("17: the lost one becomes no stray", house.replace(0), 2);
    found("17: the lost one becomes no stray", house, 2, 0, 1, 1);
    KeyWard thin = Check.made(x -> house(x, 1));
    thin.find(1);
    thin.find(1);
    thin.setThin(false);
    thin.lose(1);
    Check.is("17: the door is thin no more without the lost key", thin.replace(1), 2);
    found("17: the door is thin no more without the lost key", thin, 2, 2, 2, 2);
    KeyWard blocked = Check.made(x -> house(x, 1));
    Check.block(blocked, 0);
    blocked.findIn(0, 1);
    blocked.lose(0);
    found("17: in no block", blocked, blocked.replace(0), 1, 0, 0);
  }

  private static void replaceRefuses() {
    Check.refuses("17: key 3 of 3", Check.INDEX, SearchTest::strayed, x -> x.replace(3));
    Check.refuses("17: key -1", Check.INDEX, SearchTest::strayed, x -> x.replace(-1));
    Check.refuses("17: it is not lost", Check.UNSUPPORTED, SearchTest::strayed, x -> x.replace(1));
    Check.refuses("17: wished for no door", Check.UNSUPPORTED, x -> {
      strayed(x);
      x.lose(2);
    }, x -> x.replace(2));
    Check.refuses("17: no new key, as another door has a stray", Check.MISSING, x -> {
      strayed(x);
      x.wish(2, Check.key(x, 2, 2, 2), true);
      x.lose(3);
    }, x -> x.replace(3));
    Check.refuses("17: the blank does not fit", Check.MISSING, x -> {
      house(x, 1);
      x.setWard(0, 1);
      x.find(1);
      x.lose(0);
      x.setBlank(3);
    }, x -> x.replace(0));
    Check.Setting full = x -> {
      Check.doors(x, 2);
      Check.smallKeys(x, 16);
      x.wish(0, 3, true);
      x.lose(3);
    };
    Check.refuses("17: none is left, ahead of 16 keys", Check.MISSING, full, x -> x.replace(3));
    Check.refuses("17: 16 keys", Check.STATE, x -> {
      house(x, 2);
      x.machine(3, 4, 3);
      for (int i = 0; i < 16; i++) {
        Check.key(x, i >> 2, i & 3, 0);
      }
      x.wish(1, 3, true);
      x.lose(3);
    }, x -> x.replace(3));
  }
}
