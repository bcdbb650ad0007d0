/** The promises 25 to 31. */
public final class ProgressionsTest {
  public static void main(String[] args) {
    countsBelow();
    belowRefuses();
    tellsBelow();
    belowAtRefuses();
    cutsBelow();
    cutBelowRefuses();
    addsRules();
    appliesRules();
    keepsBlocks();
    keepBlockRefuses();
    findsInBlocks();
    findInRefuses();
    Check.end();
  }

  /** A master with the depths 1, 3, 5 and one with 0, 0, 2, and two doors. */
  private static void masters(KeyWard house) {
    house.machine(3, 6, 5);
    Check.doors(house, 2);
    Check.key(house, 1, 3, 5);
    Check.key(house, 0, 0, 2);
  }

  private static void countsBelow() {
    KeyWard house = Check.made(ProgressionsTest::masters);
    Check.is("25: none held", house.below(0, 0), 8);
    Check.is("25: the first held", house.below(0, 1), 4);
    Check.is("25: the last held", house.below(0, 4), 4);
    Check.is("25: two held", house.below(0, 5), 2);
    Check.is("25: all held", house.below(0, 7), 0);
    KeyWard near = Check.made(x -> x.machine(3, 6, 2));
    Check.key(near, 1, 3, 5);
    Check.is("25: 3 1 1, 3 1 3, 3 5 3, 5 5 3 alone could be cut", near.below(0, 0), 4);
    KeyWard two = Check.made(x -> Check.smallKeys(x, 1));
    Check.is("25: no other depth with the same rest", two.below(0, 7), 0);
    KeyWard three = Check.made(x -> x.machine(3, 3, 2));
    Check.key(three, 0, 1, 0);
    Check.is("25: no other depth in one chamber", three.below(0, 0), 0);
    Check.is("25: that one held", three.below(0, 2), 1);
  }

  private static void belowRefuses() {
    Check.refuses("25: key 2 of 2", Check.INDEX, ProgressionsTest::masters, x -> x.below(2, 0));
    Check.refuses("25: key -1, and no such chambers", Check.INDEX, ProgressionsTest::masters, x -> x.below(-1, 8));
    Check.refuses("25: chamber 3 of 3", Check.ILLEGAL, ProgressionsTest::masters, x -> x.below(0, 8));
    Check.refuses("25: held -1", Check.ILLEGAL, ProgressionsTest::masters, x -> x.below(0, -1));
  }

  private static void tellsBelow() {
    KeyWard house = Check.made(ProgressionsTest::masters);
    int[][] due = {{3, 1, 1}, {3, 1, 3}, {3, 5, 1}, {3, 5, 3}, {5, 1, 1}, {5, 1, 3}, {5, 5, 1}, {5, 5, 3}};
    for (int i = 0; i < 24; i++) {
      Check.is("26: key " + i / 3 + " chamber " + i % 3, house.belowAt(0, 0, i / 3, i % 3), due[i / 3][i % 3]);
    }
    Check.is("26: the held one", house.belowAt(0, 2, 1, 1), 3);
    Check.is("26: the first one", house.belowAt(0, 2, 1, 0), 3);
    Check.is("26: the last one", house.belowAt(0, 2, 1, 2), 3);
    KeyWard near = Check.made(x -> x.machine(3, 6, 2));
    Check.key(near, 1, 3, 5);
    int[][] fewer = {{3, 1, 1}, {3, 1, 3}, {3, 5, 3}, {5, 5, 3}};
    for (int i = 0; i < 12; i++) {
      Check.is("26: of those that could be cut", near.belowAt(0, 0, i / 3, i % 3), fewer[i / 3][i % 3]);
    }
  }

  private static void belowAtRefuses() {
    Check.Setting two = ProgressionsTest::masters;
    Check.refuses("26: master 2 of 2", Check.INDEX, two, x -> x.belowAt(2, 0, 0, 0));
    Check.refuses("26: master -1", Check.INDEX, two, x -> x.belowAt(-1, 9, -1, 0));
    Check.refuses("26: chamber 3 of 3", Check.INDEX, two, x -> x.belowAt(0, 0, 0, 3));
    Check.refuses("26: chamber -1, and no such held", Check.INDEX, two, x -> x.belowAt(0, 8, 0, -1));
    Check.refuses("26: held 8", Check.ILLEGAL, two, x -> x.belowAt(0, 8, 9, 0));
    Check.refuses("26: held -1", Check.ILLEGAL, two, x -> x.belowAt(0, -1, 0, 0));
    Check.refuses("26: key 8 of 8", Check.MISSING, two, x -> x.belowAt(0, 0, 8, 0));
    Check.refuses("26: key -1", Check.MISSING, two, x -> x.belowAt(0, 0, -1, 0));
    Check.refuses("26: all held", Check.MISSING, two, x -> x.belowAt(0, 7, 0, 0));
  }

  private static void cutsBelow() {
    KeyWard house = Check.made(ProgressionsTest::masters);
    house.cut(2);
    house.setBlank(2);
    Check.is("27: the new key", house.cutBelow(0, 1, 2, 1), 2);
    Check.is("27: its first depth", house.depthOf(2, 0), 1);
    Check.is("27: its second depth", house.depthOf(2, 1), 5);
    Check.is("27: its third depth", house.depthOf(2, 2), 1);
    Check.is("27: its profile is that of the blank", house.profileOf(2), 2);
    Check.is("27: it is wished", house.isWished(1, 2), true);
    Check.is("27: the master is wished", house.isWished(1, 0), true);
    Check.is("27: not for the other door", house.isWished(0, 2), false);
    Check.is("27: not for the other door", house.isWished(0, 0), false);
    Check.is("27: depths that are told stay", house.forget(), 1);
    house.lose(0);
    Check.is("27: a lost master that is wished", house.cutBelow(0, 1, 3, 1), 3);
    house.setBlank(0);
    Check.is("27: the same one from another blank", house.cutBelow(0, 1, 2, 1), 4);
    Check.block(house, 2);
    Check.is("27: a key that a block keeps", house.cutBelow(1, 6, 0, 0), 5);
    Check.is("27: a key that a block keeps", house.depthOf(5, 0), 2);
  }

  private static void cutBelowRefuses() {
    Check.Setting two = ProgressionsTest::masters;
    Check.refuses("27: master 2 of 2", Check.INDEX, two, x -> x.cutBelow(2, 0, 0, 0));
    Check.refuses("27: master -1", Check.INDEX, two, x -> x.cutBelow(-1, 8, 0, 0));
    Check.refuses("27: door 2 of 2", Check.INDEX, two, x -> x.cutBelow(0, 8, 0, 2));
    Check.refuses("27: door -1", Check.INDEX, two, x -> x.cutBelow(0, 0, 9, -1));
    Check.refuses("27: held 8", Check.ILLEGAL, two, x -> x.cutBelow(0, 8, 9, 0));
    Check.refuses("27: held -1", Check.ILLEGAL, two, x -> x.cutBelow(0, -1, 0, 0));
    Check.refuses("27: key 4 of 4", Check.MISSING, two, x -> x.cutBelow(0, 1, 4, 0));
    Check.refuses("27: key -1", Check.MISSING, two, x -> x.cutBelow(0, 1, -1, 0));
    Check.refuses("27: it is there", Check.UNSUPPORTED, x -> {
      masters(x);
      Check.key(x, 3, 1, 1);
    }, x -> x.cutBelow(0, 0, 0, 0));
    Check.refuses("27: a lost master", Check.UNSUPPORTED, x -> {
      masters(x);
      x.lose(0);
    }, x -> x.cutBelow(0, 0, 0, 0));
    Check.refuses("27: the new one does not fit", Check.UNSUPPORTED, x -> {
      masters(x);
      x.setBlank(1);
      x.setWard(0, 1);
    }, x -> x.cutBelow(0, 0, 0, 0));
    Check.refuses("27: the master does not fit", Check.UNSUPPORTED, x -> {
      masters(x);
      x.setBlank(1);
      Check.key(x, 1, 1, 1);
      x.setBlank(0);
      x.setWard(0, 1);
    }, x -> x.cutBelow(2, 0, 0, 0));
    Check.refuses("27: key -1, ahead of a lost master", Check.MISSING, x -> {
      masters(x);
      x.lose(0);
    }, x -> x.cutBelow(0, 0, -1, 0));
    Check.refuses("27: 16 keys, and it is there", Check.UNSUPPORTED, x -> sixteen(x, 3), x -> x.cutBelow(0, 0, 0, 0));
    Check.refuses("27: 16 keys", Check.STATE, x -> sixteen(x, 2), x -> x.cutBelow(0, 0, 0, 0));
  }

  private static void sixteen(KeyWard house, int first) {
    masters(house);
    for (int i = 0; i < 14; i++) {
      Check.key(house, first, 1 + i / 5, 1 + i % 5);
    }
  }

  private static void addsRules() {
    KeyWard house = new KeyWard();
    for (int i = 1; i <= 12; i++) {
      Check.is("28: how many", house.addRule(i == 1 ? 65535 : 1, i == 1 ? 1023 : 1, i % 2 == 0), i);
    }
    Check.is("28: the last one tells", house.applyRules(), 0);
    int[][] wrong = {{0, 1}, {-1, 1}, {65536, 1}, {1, 0}, {1, -1}, {1, 1024}};
    for (int[] row : wrong) {
      Check.refuses("28: out of range", Check.ILLEGAL, x -> Check.smallKeys(x, 1), x -> x.addRule(row[0], row[1], true));
    }
    Check.Setting twelve = x -> {
      for (int i = 0; i < 12; i++) {
        x.addRule(1, 1, true);
      }
    };
    Check.refuses("28: a 13th", Check.STATE, twelve, x -> x.addRule(1, 1, true));
    Check.refuses("28: a 13th that is out of range", Check.ILLEGAL, twelve, x -> x.addRule(0, 1, true));
  }

  private static void appliesRules() {
    KeyWard house = Check.made(x -> Check.smallKeys(x, 4));
    Check.doors(house, 3);
    house.wish(2, 3, true);
    house.wish(1, 0, true);
    house.addRule(15, 7, true);
    house.addRule(2, 3, false);
    house.addRule(1, 2, false);
    Check.is("29: the wishes that are others", house.applyRules(), 9);
    Check.is("29: the first rule", house.isWished(0, 0), true);
    Check.is("29: the second rule, as it is later", house.isWished(0, 1), false);
    Check.is("29: the third rule, as it is the last", house.isWished(1, 0), false);
    Check.is("29: the last key", house.isWished(2, 3), true);
    Check.is("29: nothing is left", house.applyRules(), 0);
    house.addRule(2, 1, true);
    Check.is("29: a rule that is the last one now", house.applyRules(), 1);
    Check.key(house, 1, 1, 1, 1);
    Check.is("29: no rule for a key", house.applyRules(), 0);
    Check.is("29: it stays", house.isWished(0, 4), false);
    KeyWard later = Check.made(x -> Check.smallKeys(x, 1));
    later.addRule(3, 512 + 1, true);
    Check.is("29: no door is there", later.applyRules(), 0);
    later.addDoor();
    Check.is("29: a door that came later", later.applyRules(), 1);
    Check.key(later, 1, 1, 1, 1);
    Check.is("29: a key that came later", later.applyRules(), 1);
    KeyWard lost = Check.made(x -> Check.smallKeys(x, 2));
    Check.doors(lost, 2);
    lost.wish(0, 0, true);
    lost.lose(0);
    lost.setBlank(1);
    Check.key(lost, 0, 0, 0, 0);
    lost.setWard(1, 1);
    lost.addRule(7, 3, true);
    Check.is("29: as far as they can be made", lost.applyRules(), 3);
    Check.is("29: the lost one that is wished", lost.isWished(0, 0), true);
    Check.is("29: the lost one that is not", lost.isWished(1, 0), false);
    Check.is("29: the one that does not fit", lost.isWished(1, 2), false);
    Check.is("29: the one that fits", lost.isWished(0, 2), true);
    lost.addRule(1, 1, false);
    Check.is("29: a lost one is wished no more", lost.applyRules(), 1);
  }

  private static void keepsBlocks() {
    KeyWard house = new KeyWard();
    Check.is("30: one depth", Check.block(house, 1), 0);
    Check.is("30: the depths are forgotten", house.forget(), 0);
    Check.is("30: two depths", Check.block(house, 2, 1), 1);
    Check.is("30: beside it", Check.block(house, 2, 2), 2);
    Check.is("30: a whole key", Check.block(house, 2, 0, 0, 0, 0), 3);
    KeyWard there = new KeyWard();
    Check.key(there, 1, 1, 1, 1, 1);
    Check.is("30: a key may be there", Check.block(there, 1), 0);
  }

  private static void keepBlockRefuses() {
    Check.refuses("30: none told", Check.ILLEGAL, x -> Check.block(x, 1), KeyWard::keepBlock);
    Check.refuses("30: the same one", Check.UNSUPPORTED, x -> {
      Check.block(x, 2, 1);
      x.cut(2);
      x.cut(1);
    }, KeyWard::keepBlock);
    Check.refuses("30: it begins with another one", Check.UNSUPPORTED, x -> {
      Check.block(x, 2, 1);
      x.cut(2);
      x.cut(1);
      x.cut(0);
    }, KeyWard::keepBlock);
    Check.refuses("30: another one begins with it", Check.UNSUPPORTED, x -> {
      Check.block(x, 0);
      Check.block(x, 2, 1);
      x.cut(2);
    }, KeyWard::keepBlock);
    Check.Setting four = x -> {
      for (int i = 0; i < 4; i++) {
        Check.block(x, i);
      }
    };
    Check.refuses("30: none told, and 4 there", Check.ILLEGAL, four, KeyWard::keepBlock);
    Check.refuses("30: the same one, and 4 there", Check.UNSUPPORTED, x -> {
      four.of(x);
      x.cut(3);
    }, KeyWard::keepBlock);
    Check.refuses("30: a 5th", Check.STATE, x -> {
      four.of(x);
      x.cut(4);
    }, KeyWard::keepBlock);
  }

  /** The blocks of the keys that begin with 1, and with 2 1, and two doors. */
  private static void blocks(KeyWard house) {
    house.machine(3, 3, 1);
    Check.doors(house, 2);
    Check.block(house, 1);
    Check.block(house, 2, 1);
  }

  private static void findsInBlocks() {
    KeyWard house = Check.made(ProgressionsTest::blocks);
    Check.is("31: the first of block 0", house.findIn(0, 3), 0);
    Check.is("31: chamber 0", house.depthOf(0, 0), 1);
    Check.is("31: chamber 1", house.depthOf(0, 1), 0);
    Check.is("31: chamber 2", house.depthOf(0, 2), 0);
    Check.is("31: wished for door 0", house.isWished(0, 0), true);
    Check.is("31: wished for door 1", house.isWished(1, 0), true);
    Check.is("31: the first of block 1", house.findIn(1, 2), 1);
    Check.is("31: chamber 0", house.depthOf(1, 0), 2);
    Check.is("31: chamber 1", house.depthOf(1, 1), 1);
    Check.is("31: chamber 2", house.depthOf(1, 2), 0);
    Check.is("31: not wished for door 0", house.isWished(0, 1), false);
    Check.is("31: the next of block 0", house.findIn(0, 1), 2);
    Check.is("31: the next of block 0", house.depthOf(2, 2), 1);
    house.setBlank(1);
    house.cut(0);
    Check.is("31: from the blank as it is", house.findIn(0, 1), 3);
    Check.is("31: from the blank as it is", house.profileOf(3), 1);
    Check.is("31: depths that are told stay", house.forget(), 1);
    KeyWard strict = Check.made(ProgressionsTest::blocks);
    strict.wish(0, Check.key(strict, 1, 0, 1), true);
    strict.wish(0, Check.key(strict, 1, 1, 0), true);
    Check.is("31: not as a stray of another door", strict.findIn(0, 2), 2);
    Check.is("31: 1 1 2 is the first", strict.depthOf(2, 1), 1);
    Check.is("31: 1 1 2 is the first", strict.depthOf(2, 2), 2);
  }

  private static void findInRefuses() {
    Check.Setting two = ProgressionsTest::blocks;
    Check.refuses("31: block 2 of 2", Check.INDEX, two, x -> x.findIn(2, 1));
    Check.refuses("31: block -1, and no such doors", Check.INDEX, two, x -> x.findIn(-1, 0));
    Check.refuses("31: no doors told", Check.ILLEGAL, two, x -> x.findIn(0, 0));
    Check.refuses("31: door 2 of 2", Check.ILLEGAL, two, x -> x.findIn(0, 4));
    Check.refuses("31: doors -1", Check.ILLEGAL, two, x -> x.findIn(0, -1));
    Check.refuses("31: none is left in the block", Check.MISSING, x -> {
      two.of(x);
      Check.block(x, 0, 0, 0);
      Check.key(x, 0, 0, 0);
    }, x -> x.findIn(2, 1));
    Check.refuses("31: 16 keys, and none is left", Check.MISSING, x -> {
      x.addDoor();
      Check.smallKeys(x, 16);
      Check.block(x, 1);
    }, x -> x.findIn(0, 1));
    Check.refuses("31: 16 keys", Check.STATE, x -> {
      two.of(x);
      x.find(1);
      for (int i = 0; i < 15; i++) {
        x.setBlank(1 + i % 7);
        Check.key(x, 2 - i / 7, 1, 1);
        x.setBlank(0);
      }
    }, x -> x.findIn(0, 2));
  }
}
