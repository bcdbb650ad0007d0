/** The edges that the promises 25 to 31, and the terms of progressions, rules and blocks, name. */
public final class ProgressionsEdgesTest {
  public static void main(String[] args) {
    belowEnds();
    belowAtEnds();
    belowRefused();
    cutBelowEnds();
    cutBelowRefused();
    cutBelowSaysTheFirst();
    addRuleEnds();
    applyRulesEnds();
    keepBlockEnds();
    keepBlockRefused();
    findInEnds();
    findInRefused();
    findInSaysTheFirst();
    Check.end();
  }

  /** A master with the depths 0 0 0 0 0 0 and one with 5 5 5 5 5 5. */
  private static void six(KeyWard house) {
    house.machine(6, 6, 5);
    Check.key(house, 0, 0, 0, 0, 0, 0);
    Check.key(house, 5, 5, 5, 5, 5, 5);
  }

  private static void belowEnds() {
    KeyWard house = Check.made(ProgressionsEdgesTest::six);
    for (int held = 0; held < 63; held++) {
      Check.is("25: held " + held, house.below(0, held), 1 << (6 - Integer.bitCount(held)));
    }
    Check.is("25: all are held", house.below(0, 63), 0);
    for (int chambers = 3; chambers <= 6; chambers++) {
      int all = chambers;
      Check.Setting setting = x -> {
        x.machine(all, 3, 2);
        for (int i = 0; i < all; i++) {
          x.cut(2);
        }
        x.addKey();
      };
      Check.is("25: all but the last of " + all, Check.made(setting).below(0, (1 << all - 1) - 1), 1);
      Check.is("25: all of " + all, Check.made(setting).below(0, (1 << all) - 1), 0);
      Check.refusesOutside("25: held of " + all, Check.ILLEGAL, 0, (1 << all) - 1, setting, (x, n) -> x.below(0, n));
    }
    int[] others = {0, 0, 1, 1, 2, 2};
    for (int depths = 2; depths <= 6; depths++) {
      KeyWard near = new KeyWard();
      near.machine(3, depths, 5);
      Check.key(near, 0, 0, 0);
      int other = (depths - 1) / 2;
      Check.is("25: other depths with the rest of 0, of " + depths, near.below(0, 3), other);
      Check.key(near, 1, 1, 1);
      Check.is("25: other depths with the rest of 1, of " + depths, near.below(1, 3), others[depths - 2]);
    }
    KeyWard apart = Check.made(x -> x.machine(3, 6, 1));
    Check.key(apart, 0, 0, 0);
    Check.is("25: 0 0 2 and 0 0 4 could not be cut", apart.below(0, 3), 0);
    Check.is("25: 2 2 2 and 4 4 4", apart.below(0, 0), 2);
  }

  private static void belowAtEnds() {
    KeyWard house = Check.made(ProgressionsEdgesTest::six);
    for (int c = 0; c < 6; c++) {
      Check.is("26: the first key, chamber " + c, house.belowAt(0, 0, 0, c), 2);
      Check.is("26: the second key, chamber " + c, house.belowAt(0, 0, 1, c), c == 5 ? 4 : 2);
      Check.is("26: the last key, chamber " + c, house.belowAt(0, 0, 63, c), 4);
      Check.is("26: the first below the other one, chamber " + c, house.belowAt(1, 0, 0, c), 1);
      Check.is("26: the last below the other one, chamber " + c, house.belowAt(1, 0, 63, c), 3);
      Check.is("26: the first chamber alone, chamber " + c, house.belowAt(0, 62, 1, c), c == 0 ? 4 : 0);
      Check.is("26: the last chamber alone, chamber " + c, house.belowAt(0, 31, 1, c), c == 5 ? 4 : 0);
    }
  }

  private static void belowRefused() {
    Check.refusesOutside("25: master", Check.INDEX, 0, 15, Check::full, (x, n) -> x.below(n, 0));
    Check.refusesOutside("26: master", Check.INDEX, 0, 15, Check::full, (x, n) -> x.belowAt(n, 0, 0, 0));
    Check.refusesOutside("26: chamber", Check.INDEX, 0, 2, Check::full, (x, n) -> x.belowAt(0, 0, 0, n));
    Check.refusesOutside("26: held", Check.ILLEGAL, 0, 7, Check::full, (x, n) -> x.belowAt(0, n, 0, 0));
    Check.refusesOutside("26: number", Check.MISSING, 0, 7, Check::full, (x, n) -> x.belowAt(0, 0, n, 0));
    Check.refusesOutside("26: number of 64", Check.MISSING, 0, 63, ProgressionsEdgesTest::six, (x, n) -> x.belowAt(0, 0, n, 0));
    Check.refuses("26: none, as all are held", Check.MISSING, Check::full, x -> x.belowAt(15, 7, 0, 2));
    Check.refuses("25: no such key is ahead of no such chambers", Check.INDEX, Check::full, x -> x.below(16, 8));
    Check.refuses("26: no such master is ahead of all", Check.INDEX, Check::full, x -> x.belowAt(16, 8, 8, 0));
    Check.refuses("26: no such chamber is ahead of those held", Check.INDEX, Check::full, x -> x.belowAt(0, 8, 0, 3));
    Check.refuses("26: no such chamber is ahead of the number", Check.INDEX, Check::full, x -> x.belowAt(0, 0, 8, 3));
    Check.refuses("26: those held are ahead of the number", Check.ILLEGAL, Check::full, x -> x.belowAt(0, 8, 8, 0));
  }

  private static void cutBelowEnds() {
    KeyWard house = Check.made(Check::nearlyFull);
    Check.is("27: the 16th key, the last door", house.cutBelow(14, 0, 7, 9), 15);
    Check.is("27: the last key below, chamber 0", house.depthOf(15, 0), 4);
    Check.is("27: the last key below, chamber 1", house.depthOf(15, 1), 4);
    Check.is("27: the last key below, chamber 2", house.depthOf(15, 2), 4);
    Check.is("27: wished for the last door", house.isWished(9, 15), true);
    Check.is("27: the master, too", house.isWished(9, 14), true);
    Check.is("27: for no other door", house.isWished(8, 15), false);
    KeyWard twice = Check.made(Check::nearlyFull);
    twice.wish(0, 0, true);
    Check.is("27: the master is wished already", twice.cutBelow(0, 0, 0, 0), 15);
    Check.is("27: both are wished", twice.wish(0, 0, true), 2);
    for (int i = 0; i < 64; i++) {
      int profile = i / 8;
      int ward = i % 8;
      Check.Setting setting = x -> {
        x.machine(3, 3, 2);
        Check.key(x, 0, 0, 0);
        x.addDoor();
        x.setBlank(profile);
        x.setWard(0, ward);
      };
      String what = "27: profile " + profile + ", ward " + ward;
      if ((profile & ward) == 0) {
        Check.is(what, Check.made(setting).cutBelow(0, 0, 0, 0), 1);
      } else {
        Check.refuses(what, Check.UNSUPPORTED, setting, x -> x.cutBelow(0, 0, 0, 0));
      }
    }
  }

  private static void cutBelowRefused() {
    Check.refusesOutside("27: master", Check.INDEX, 0, 15, Check::full, (x, n) -> x.cutBelow(n, 0, 0, 0));
    Check.refusesOutside("27: door", Check.INDEX, 0, 9, Check::full, (x, n) -> x.cutBelow(0, 0, 0, n));
    Check.refusesOutside("27: held", Check.ILLEGAL, 0, 7, Check::full, (x, n) -> x.cutBelow(0, n, 0, 0));
    Check.refusesOutside("27: number", Check.MISSING, 0, 7, Check::full, (x, n) -> x.cutBelow(0, 0, n, 0));
    Check.refuses("27: all are held", Check.MISSING, Check::nearlyFull, x -> x.cutBelow(0, 7, 0, 0));
    Check.refuses("27: the master is lost, and not wished", Check.UNSUPPORTED, x -> {
      Check.nearlyFull(x);
      x.wish(1, 0, true);
      x.lose(0);
    }, x -> x.cutBelow(0, 0, 0, 0));
    Check.refuses("27: the lost key is there", Check.UNSUPPORTED, x -> {
      x.machine(3, 3, 2);
      x.addDoor();
      Check.key(x, 0, 0, 0);
      x.lose(Check.key(x, 2, 2, 2));
    }, x -> x.cutBelow(0, 0, 0, 0));
    Check.refuses("27: the master does not fit", Check.UNSUPPORTED, x -> {
      x.machine(3, 3, 2);
      x.addDoor();
      x.setWard(0, 4);
      x.setBlank(4);
      Check.key(x, 0, 0, 0);
      x.setBlank(0);
    }, x -> x.cutBelow(0, 0, 0, 0));
    Check.refuses("27: a 17th", Check.STATE, Check::full, x -> x.cutBelow(15, 0, 7, 9));
  }

  private static void cutBelowSaysTheFirst() {
    Check.Setting lost = x -> {
      Check.full(x);
      x.lose(0);
    };
    Check.refuses("27: no such master is ahead of all", Check.INDEX, lost, x -> x.cutBelow(16, 8, 8, 0));
    Check.refuses("27: no such door is ahead of all others", Check.INDEX, lost, x -> x.cutBelow(0, 8, 8, 10));
    Check.refuses("27: no such door is ahead of a lost master", Check.INDEX, lost, x -> x.cutBelow(0, 0, 0, 10));
    Check.refuses("27: those held are ahead of the number", Check.ILLEGAL, lost, x -> x.cutBelow(0, 8, 8, 0));
    Check.refuses("27: those held are ahead of a lost master", Check.ILLEGAL, lost, x -> x.cutBelow(0, 8, 0, 0));
    Check.refuses("27: the number is ahead of a lost master", Check.MISSING, lost, x -> x.cutBelow(0, 0, 8, 0));
    Check.refuses("27: the number is ahead of 16 keys", Check.MISSING, Check::full, x -> x.cutBelow(0, 0, 8, 0));
    Check.refuses("27: a lost master is ahead of 16 keys", Check.UNSUPPORTED, lost, x -> x.cutBelow(0, 0, 0, 0));
    Check.refuses("27: it is there, ahead of 16 keys", Check.UNSUPPORTED, Check::full, x -> x.cutBelow(0, 5, 0, 0));
  }

  private static void addRuleEnds() {
    KeyWard house = new KeyWard();
    Check.is("28: the least sums", house.addRule(1, 1, true), 1);
    Check.is("28: the greatest sums", house.addRule(65535, 1023, false), 2);
    Check.is("28: the last key and the last door", house.addRule(32768, 512, true), 3);
    for (int i = 4; i <= 12; i++) {
      Check.is("28: rule " + i, house.addRule(65535, 1023, true), i);
    }
    Check.refusesOutside("28: keys", Check.ILLEGAL, 1, 65535, x -> {}, (x, n) -> x.addRule(n, 1, true));
    Check.refusesOutside("28: doors", Check.ILLEGAL, 1, 1023, x -> {}, (x, n) -> x.addRule(1, n, true));
    Check.Setting twelve = x -> {
      Check.full(x);
      for (int i = 0; i < 12; i++) {
        x.addRule(1 << i, 512, true);
      }
    };
    Check.refuses("28: a 13th", Check.STATE, twelve, x -> x.addRule(65535, 1023, false));
    Check.refuses("28: a 13th of no keys", Check.ILLEGAL, twelve, x -> x.addRule(0, 1, true));
    Check.refuses("28: a 13th of too many keys", Check.ILLEGAL, twelve, x -> x.addRule(65536, 1, true));
    Check.refuses("28: a 13th of too many doors", Check.ILLEGAL, twelve, x -> x.addRule(1, 1024, true));
    KeyWard applied = Check.made(twelve);
    Check.is("28: all 12 are kept", applied.applyRules(), 12);
    Check.is("28: the 12th", applied.isWished(9, 11), true);
    Check.is("28: no 13th", applied.isWished(9, 12), false);
  }

  private static void applyRulesEnds() {
    KeyWard none = Check.made(Check::full);
    Check.is("29: no rule", none.applyRules(), 0);
    KeyWard last = Check.made(Check::full);
    last.addRule(32768, 512, true);
    Check.is("29: the last key, the last door", last.applyRules(), 1);
    Check.is("29: the last key, the last door", last.isWished(9, 15), true);
    KeyWard all = Check.made(Check::full);
    all.addRule(65535, 1023, true);
    Check.is("29: all wishes", all.applyRules(), 160);
    Check.is("29: once more", all.applyRules(), 0);
    all.addRule(65535, 1023, false);
    Check.is("29: no wishes", all.applyRules(), 160);
    all.addRule(1, 1, true);
    Check.is("29: for one, a later rule tells", all.applyRules(), 1);
    KeyWard empty = new KeyWard();
    empty.addRule(65535, 1023, true);
    Check.is("29: neither key nor door", empty.applyRules(), 0);
    Check.doors(empty, 10);
    Check.is("29: no key", empty.applyRules(), 0);
    Check.key(empty, 0, 0, 0, 0, 0);
    Check.is("29: one key came", empty.applyRules(), 10);
    for (int i = 0; i < 64; i++) {
      int profile = i / 8;
      int ward = i % 8;
      KeyWard fit = Check.made(x -> x.setBlank(profile));
      Check.doors(fit, 2);
      Check.key(fit, 0, 0, 0, 0, 0);
      fit.setWard(1, ward);
      fit.addRule(1, 3, true);
      Check.is("29: profile " + profile + ", ward " + ward, fit.applyRules(), (profile & ward) == 0 ? 2 : 1);
    }
  }

  private static void keepBlockEnds() {
    KeyWard house = Check.made(x -> x.machine(6, 6, 5));
    Check.is("30: a whole key", Check.block(house, 5, 5, 5, 5, 5, 5), 0);
    Check.is("30: a whole key beside it", Check.block(house, 5, 5, 5, 5, 5, 4), 1);
    Check.is("30: one depth", Check.block(house, 0), 2);
    Check.is("30: the 4th", Check.block(house, 5, 0), 3);
    Check.is("30: the depths are forgotten", house.forget(), 0);
    Check.is("30: they keep no number of a key", Check.key(house, 0, 0, 0, 0, 0, 0), 0);
  }

  private static void keepBlockRefused() {
    Check.refuses("30: none are told", Check.ILLEGAL, x -> {}, KeyWard::keepBlock);
    Check.refuses("30: none are told any more", Check.ILLEGAL, x -> {
      x.cut(1);
      x.forget();
    }, KeyWard::keepBlock);
    int[][] meeting = {{4}, {4, 4}, {4, 0, 5}, {5}, {5, 0}, {5, 2}, {5, 2, 0}};
    for (int[] told : meeting) {
      Check.Setting more = x -> tell(x, told);
      Check.refuses("30: one begins with the other one, and 4 are there", Check.UNSUPPORTED, x -> {
        Check.full(x);
        more.of(x);
      }, KeyWard::keepBlock);
    }
    int[][] apart = {{0}, {3, 5, 5}, {5, 3}, {5, 5, 0}};
    for (int[] told : apart) {
      Check.refuses("30: a 5th", Check.STATE, x -> {
        Check.full(x);
        tell(x, told);
      }, KeyWard::keepBlock);
    }
    Check.refuses("30: none are told, and 4 are there", Check.ILLEGAL, Check::full, KeyWard::keepBlock);
    Check.refuses("30: a block of a whole key, the same one", Check.UNSUPPORTED, x -> {
      x.machine(3, 2, 1);
      Check.block(x, 1, 1, 1);
      tell(x, 1, 1, 1);
    }, KeyWard::keepBlock);
    Check.refuses("30: a block of a whole key begins with it", Check.UNSUPPORTED, x -> {
      x.machine(3, 2, 1);
      Check.block(x, 1, 1, 1);
      tell(x, 1, 1);
    }, KeyWard::keepBlock);
  }

  private static void findInEnds() {
    KeyWard house = Check.made(Check::nearlyFull);
    Check.is("31: the last block, all doors, the 16th key", house.findIn(3, 1023), 15);
    Check.is("31: it begins with 5", house.depthOf(15, 0), 5);
    Check.is("31: and with 2", house.depthOf(15, 1), 2);
    Check.is("31: then the first", house.depthOf(15, 2), 0);
    for (int i = 0; i < 10; i++) {
      Check.is("31: wished for door " + i, house.isWished(i, 15), true);
    }
    Check.Setting whole = x -> {
      x.machine(3, 2, 1);
      Check.doors(x, 10);
      Check.block(x, 1, 0, 1);
      Check.block(x, 0);
    };
    KeyWard one = Check.made(whole);
    Check.is("31: the one key of a block, the last door", one.findIn(0, 512), 0);
    Check.is("31: the last door", one.isWished(9, 0), true);
    Check.is("31: another door", one.isWished(8, 0), false);
    Check.refuses("31: a block of one key that is there", Check.MISSING, x -> {
      whole.of(x);
      x.findIn(0, 512);
    }, x -> x.findIn(0, 1));
    one.setBlank(2);
    Check.is("31: the one key from another blank", one.findIn(0, 512), 1);
    Check.is("31: the first block is another one", one.findIn(1, 1), 2);
    Check.is("31: it begins with 0", one.depthOf(2, 0), 0);
  }

  private static void findInRefused() {
    Check.refusesOutside("31: block", Check.INDEX, 0, 3, Check::full, (x, n) -> x.findIn(n, 1));
    Check.refusesOutside("31: doors", Check.ILLEGAL, 1, 1023, Check::full, (x, n) -> x.findIn(0, n));
    for (int i = 0; i < 4; i++) {
      int block = i;
      Check.refuses("31: a 17th key, block " + i, Check.STATE, Check::full, x -> x.findIn(block, 1));
    }
    Check.refuses("31: no door", Check.ILLEGAL, x -> Check.block(x, 1), x -> x.findIn(0, 1));
    Check.refuses("31: it does not fit", Check.MISSING, x -> {
      Check.nearlyFull(x);
      x.setWard(9, 1);
      x.setBlank(7);
    }, x -> x.findIn(0, 513));
    Check.refuses("31: a door is thin", Check.MISSING, x -> {
      Check.nearlyFull(x);
      x.wish(9, 0, true);
      x.wish(9, 1, true);
      x.setThin(false);
    }, x -> x.findIn(0, 1));
    Check.refuses("31: a stray was there ahead of this", Check.MISSING, x -> {
      Check.nearlyFull(x);
      x.wish(9, 0, true);
      x.wish(9, 7, true);
    }, x -> x.findIn(0, 1));
  }

  private static void findInSaysTheFirst() {
    Check.Setting none = x -> {
      Check.full(x);
      for (int i = 0; i < 10; i++) {
        x.setWard(i, 1);
      }
      x.setBlank(1);
    };
    Check.refuses("31: no such block is ahead of all", Check.INDEX, none, x -> x.findIn(4, 0));
    Check.refuses("31: no such block is ahead of no such key", Check.INDEX, none, x -> x.findIn(-1, 1));
    Check.refuses("31: no such doors is ahead of no such key", Check.ILLEGAL, none, x -> x.findIn(0, 1024));
    Check.refuses("31: no such key is ahead of 16 keys", Check.MISSING, none, x -> x.findIn(0, 1));
  }

  private static void tell(KeyWard house, int... depths) {
    for (int depth : depths) {
      house.cut(depth);
    }
  }
}
