/** The edges that the promises 38 to 47, and the terms of lending, name. */
public final class LendingEdgesTest {
  public static void main(String[] args) {
    ringEnds();
    ringRefused();
    setDeputyEnds();
    setAwayEnds();
    setGuardEnds();
    addPersonEnds();
    lendEnds();
    lendRefused();
    lendRingRefused();
    waysOfDeputies();
    bringEnds();
    bringRefused();
    holderEnds();
    lateEnds();
    passEnds();
    Check.end();
  }

  private static void ringEnds() {
    KeyWard house = Check.made(Check::full);
    for (int i = 1; i < 16; i++) {
      Check.is("38: keys up to " + i, house.ring(i - 1, i), i + 1);
    }
    Check.is("38: all are on it", house.ring(15, 0), 16);
    house.lend(15, 7, 200);
    for (int i = 0; i < 16; i++) {
      Check.is("38: lent together, key " + i, house.holder(i), 7);
    }
    KeyWard halves = Check.made(Check::full);
    for (int i = 1; i < 8; i++) {
      halves.ring(0, i);
      halves.ring(15, 15 - i);
    }
    Check.is("38: two rings of 8", halves.ring(7, 8), 16);
  }

  private static void ringRefused() {
    Check.Setting mixed = x -> {
      Check.full(x);
      x.lend(1, 0, 9);
      x.lose(2);
      x.lend(3, 0, 9);
      x.lose(3);
    };
    Check.refusesOutside("38: key", Check.INDEX, 0, 15, mixed, (x, n) -> x.ring(n, 0));
    Check.refusesOutside("38: other", Check.INDEX, 0, 15, mixed, (x, n) -> x.ring(0, n));
    Check.refuses("38: no such key, both the same", Check.INDEX, mixed, x -> x.ring(16, 16));
    Check.refuses("38: no such key, and one is lost", Check.INDEX, mixed, x -> x.ring(2, 16));
    for (int i = 0; i < 4; i++) {
      int key = i;
      Check.refuses("38: both the same", Check.ILLEGAL, mixed, x -> x.ring(key, key));
    }
    for (int i = 1; i < 4; i++) {
      int key = i;
      Check.refuses("38: the first is lent or lost", Check.UNSUPPORTED, mixed, x -> x.ring(key, 15));
      Check.refuses("38: the other is lent or lost", Check.UNSUPPORTED, mixed, x -> x.ring(15, key));
    }
    Check.refuses("38: the first key is lent", Check.UNSUPPORTED, x -> {
      Check.full(x);
      x.lend(0, 0, 9);
    }, x -> x.ring(0, 15));
    Check.refuses("38: the first key is lost", Check.UNSUPPORTED, x -> {
      Check.full(x);
      x.lose(0);
    }, x -> x.ring(15, 0));
    Check.Setting onRing = x -> {
      Check.full(x);
      x.ring(0, 15);
      x.lose(15);
    };
    Check.refuses("38: one on the first ring is lost", Check.UNSUPPORTED, onRing, x -> x.ring(0, 1));
    Check.refuses("38: one on the other ring is lost", Check.UNSUPPORTED, onRing, x -> x.ring(1, 0));
    KeyWard back = Check.made(mixed);
    back.bring(1);
    Check.is("38: it was brought back", back.ring(1, 0), 2);
  }

  private static void setDeputyEnds() {
    KeyWard house = Check.made(Check::full);
    Check.is("39: the last person, the first deputy", house.setDeputy(7, 0), -1);
    Check.is("39: the deputy 0 before is not none", house.setDeputy(7, -1), 0);
    Check.is("39: none before", house.setDeputy(7, 6), -1);
    Check.is("39: the first person, the last deputy", house.setDeputy(0, 7), -1);
    Check.is("39: the last deputy before", house.setDeputy(0, 1), 7);
    Check.refusesOutside("39: person", Check.INDEX, 0, 7, Check::full, (x, n) -> x.setDeputy(n, 0));
    Check.refusesOutside("39: person, and none", Check.INDEX, 0, 7, Check::full, (x, n) -> x.setDeputy(n, -1));
    Check.refusesOutside("39: deputy", Check.INDEX, -1, 7, Check::full, (x, n) -> x.setDeputy(0, n));
    Check.refuses("39: no such person, both the same", Check.INDEX, Check::full, x -> x.setDeputy(8, 8));
    Check.refuses("39: no such person, both -1", Check.INDEX, Check::full, x -> x.setDeputy(-1, -1));
    for (int i = 0; i < 8; i++) {
      int person = i;
      Check.refuses("39: both the same", Check.ILLEGAL, Check::full, x -> x.setDeputy(person, person));
    }
  }

  private static void setAwayEnds() {
    KeyWard house = Check.made(Check::full);
    Check.is("40: the last person was there", house.setAway(7, true), false);
    Check.is("40: the last person was away", house.setAway(7, true), true);
    Check.is("40: the first person was there", house.setAway(0, false), false);
    for (boolean is : new boolean[] {true, false}) {
      Check.refusesOutside("40: person", Check.INDEX, 0, 7, Check::full, (x, n) -> x.setAway(n, is));
    }
  }

  private static void setGuardEnds() {
    KeyWard house = Check.made(Check::full);
    Check.is("41: the last person, the first guard", house.setGuard(7, 0), -1);
    Check.is("41: the guard 0 before is not none", house.setGuard(7, -1), 0);
    Check.is("41: none before", house.setGuard(7, 6), -1);
    Check.is("41: the first person, the last guard", house.setGuard(0, 7), -1);
    Check.is("41: the last guard before", house.setGuard(0, 1), 7);
    Check.refusesOutside("41: person", Check.INDEX, 0, 7, Check::full, (x, n) -> x.setGuard(n, 0));
    Check.refusesOutside("41: person, and none", Check.INDEX, 0, 7, Check::full, (x, n) -> x.setGuard(n, -1));
    Check.refusesOutside("41: guard", Check.INDEX, -1, 7, Check::full, (x, n) -> x.setGuard(0, n));
    Check.refuses("41: no such person, both the same", Check.INDEX, Check::full, x -> x.setGuard(8, 8));
    Check.refuses("41: no such person, both -1", Check.INDEX, Check::full, x -> x.setGuard(-1, -1));
    for (int i = 0; i < 8; i++) {
      int person = i;
      Check.refuses("41: both the same", Check.ILLEGAL, Check::full, x -> x.setGuard(person, person));
    }
  }

  private static void addPersonEnds() {
    KeyWard house = Check.made(x -> Check.persons(x, 7));
    Check.is("42: the 8th person", house.addPerson(), 7);
    Check.is("42: there at first", house.setAway(7, false), false);
    Check.is("42: without a deputy", house.setDeputy(7, -1), -1);
    Check.is("42: without a guard", house.setGuard(7, -1), -1);
    Check.is("42: outside", house.zoneOf(7), 0);
    Check.refuses("42: a 9th", Check.STATE, Check::full, KeyWard::addPerson);
  }

  private static void lendEnds() {
    KeyWard house = Check.made(Check::full);
    Check.is("43: the last key, the last person, 1 hour", house.lend(15, 7, 1), 1);
    Check.is("43: the last person has it", house.holder(15), 7);
    Check.is("43: the first key, the first person, 200 hours", house.lend(0, 0, 200), 200);
    Check.is("43: the first person has it", house.holder(0), 0);
    house.pass(500);
    Check.is("43: at the hour 500", house.lend(1, 0, 200), 700);
    house.bring(1);
    house.pass(500);
    Check.is("43: the hour counts anew", house.lend(1, 0, 1), 1001);
    Check.refusesOutside("43: key", Check.INDEX, 0, 15, Check::full, (x, n) -> x.lend(n, 0, 1));
    Check.refusesOutside("43: person", Check.INDEX, 0, 7, Check::full, (x, n) -> x.lend(0, n, 1));
    int[] hours = {Integer.MIN_VALUE, -200, -1, 0, 201, 256 + 1, 65536 + 1, Integer.MAX_VALUE};
    for (int wrong : hours) {
      Check.refuses("43: " + wrong + " hours", Check.ILLEGAL, Check::full, x -> x.lend(0, 0, wrong));
    }
  }

  private static void lendRefused() {
    Check.Setting mixed = x -> {
      Check.full(x);
      x.lend(1, 0, 9);
      x.lose(2);
      x.setAway(7, true);
    };
    Check.refuses("43: it is lent", Check.UNSUPPORTED, mixed, x -> x.lend(1, 1, 1));
    Check.refuses("43: it is lent to the same one", Check.UNSUPPORTED, mixed, x -> x.lend(1, 0, 1));
    Check.refuses("43: it is lost", Check.UNSUPPORTED, mixed, x -> x.lend(2, 0, 1));
    Check.refuses("43: nobody can take it", Check.UNSUPPORTED, mixed, x -> x.lend(0, 7, 1));
    Check.refuses("43: no such person, and 0 hours", Check.INDEX, mixed, x -> x.lend(0, 8, 0));
    Check.refuses("43: no such key, and nobody can take it", Check.INDEX, mixed, x -> x.lend(16, 7, 1));
    Check.refuses("43: no such person, and it is lost", Check.INDEX, mixed, x -> x.lend(2, 8, 1));
    Check.refuses("43: 0 hours, and it is lent", Check.ILLEGAL, mixed, x -> x.lend(1, 0, 0));
    Check.refuses("43: 201 hours, and it is lost", Check.ILLEGAL, mixed, x -> x.lend(2, 0, 201));
    Check.refuses("43: 201 hours, and nobody can take it", Check.ILLEGAL, mixed, x -> x.lend(0, 7, 201));
    for (int i = 0; i < 16; i += 15) {
      int key = i;
      Check.refuses("43: the key " + i + " is lent", Check.UNSUPPORTED, x -> {
        Check.full(x);
        x.lend(key, 0, 9);
      }, x -> x.lend(key, 1, 1));
    }
    Check.refuses("43: it is late, but lent", Check.UNSUPPORTED, x -> {
      mixed.of(x);
      x.pass(500);
    }, x -> x.lend(1, 1, 1));
  }

  private static void lendRingRefused() {
    Check.Setting ring = x -> {
      Check.full(x);
      x.ring(0, 14);
      x.ring(14, 15);
    };
    Check.Setting lent = x -> {
      ring.of(x);
      x.lend(15, 0, 9);
    };
    for (int key : new int[] {0, 14, 15}) {
      Check.refuses("43: the ring is lent, key " + key, Check.UNSUPPORTED, lent, x -> x.lend(key, 1, 1));
    }
    Check.refuses("43: it is lost, others are not lent", Check.UNSUPPORTED, x -> {
      ring.of(x);
      x.lose(0);
    }, x -> x.lend(0, 1, 1));
    KeyWard lost = Check.made(lent);
    lost.lose(0);
    lost.bring(14);
    Check.is("43: another one on its ring is lent, but lost", lost.lend(15, 1, 5), 5);
    Check.is("43: the lost one was not lent again", lost.holder(0), 0);
    Check.is("43: the other one was", lost.holder(14), 1);
    KeyWard all = Check.made(lent);
    all.lose(15);
    all.lose(14);
    all.bring(0);
    Check.is("43: all others are lost", all.lend(0, 2, 6), 6);
    Check.is("43: alone", all.holder(14), 0);
  }

  private static void waysOfDeputies() {
    for (int away = 0; away < 8; away++) {
      int count = away;
      KeyWard house = Check.made(x -> chain(x, count));
      Check.is("43: " + count + " away", house.lend(15, 0, 1), 1);
      Check.is("43: " + count + " away, who has it", house.holder(15), count);
    }
    Check.refuses("43: all 8 are away, the last without a deputy", Check.UNSUPPORTED, x -> chain(x, 8), x -> x.lend(15, 0, 1));
    for (int i = 0; i < 7; i++) {
      int back = i;
      Check.refuses("43: all 8 are away, and " + i + " would come again", Check.UNSUPPORTED, x -> {
        chain(x, 8);
        x.setDeputy(7, back);
      }, x -> x.lend(15, 0, 1));
    }
    KeyWard there = Check.made(x -> chain(x, 0));
    there.setDeputy(7, 0);
    there.lend(0, 3, 1);
    Check.is("43: a round of deputies, but one who is there", there.holder(0), 3);
    KeyWard round = Check.made(x -> chain(x, 8));
    round.setDeputy(7, 0);
    round.setAway(2, false);
    round.lend(0, 3, 1);
    Check.is("43: nearly all the way round", round.holder(0), 2);
    round.lend(1, 2, 1);
    Check.is("43: the one who is there", round.holder(1), 2);
  }

  /** Each person's deputy is the next one; as many are away. */
  private static void chain(KeyWard house, int away) {
    Check.full(house);
    for (int i = 0; i < 7; i++) {
      house.setDeputy(i, i + 1);
    }
    for (int i = 0; i < away; i++) {
      house.setAway(i, true);
    }
  }

  private static void bringEnds() {
    int[][] rows = {{1, 1, 0}, {1, 2, 1}, {200, 199, 0}, {200, 200, 0}, {200, 201, 1}, {1, 500, 499}};
    for (int[] row : rows) {
      KeyWard house = Check.made(Check::full);
      house.lend(15, 7, row[0]);
      house.pass(row[1]);
      Check.is("44: lent for " + row[0] + ", back after " + row[1], house.bring(15), row[2]);
    }
    KeyWard soon = Check.made(Check::full);
    soon.lend(0, 0, 1);
    Check.is("44: in the same hour", soon.bring(0), 0);
    KeyWard ring = Check.made(Check::full);
    ring.ring(0, 15);
    ring.lend(0, 0, 1);
    ring.pass(4);
    ring.lose(0);
    Check.is("44: the lost one is not with it", ring.bring(15), 3);
    Check.is("44: the lost one is lent still", ring.holder(0), 0);
  }

  private static void bringRefused() {
    Check.refusesOutside("44: key", Check.INDEX, 0, 15, Check::full, KeyWard::bring);
    Check.refuses("44: it was never lent", Check.UNSUPPORTED, Check::full, x -> x.bring(15));
    Check.refuses("44: it was lost, and never lent", Check.UNSUPPORTED, x -> {
      Check.full(x);
      x.lose(15);
    }, x -> x.bring(15));
    Check.refuses("44: it is lent and lost", Check.UNSUPPORTED, x -> {
      Check.full(x);
      x.ring(14, 15);
      x.lend(15, 0, 1);
      x.lose(15);
    }, x -> x.bring(15));
    Check.refuses("44: it was brought back with another one", Check.UNSUPPORTED, x -> {
      Check.full(x);
      x.ring(14, 15);
      x.lend(15, 0, 1);
      x.bring(14);
    }, x -> x.bring(15));
  }

  private static void holderEnds() {
    KeyWard house = Check.made(Check::full);
    house.lend(15, 0, 1);
    Check.is("45: the first person, the last key", house.holder(15), 0);
    house.lend(0, 7, 1);
    Check.is("45: the last person, the first key", house.holder(0), 7);
    Check.refusesOutside("45: key", Check.INDEX, 0, 15, Check::full, KeyWard::holder);
    Check.refuses("45: it was never lent", Check.MISSING, Check::full, x -> x.holder(15));
    Check.refuses("45: it was lost, and never lent", Check.MISSING, x -> {
      Check.full(x);
      x.lose(15);
    }, x -> x.holder(15));
    Check.refuses("45: it was brought back", Check.MISSING, x -> {
      Check.full(x);
      x.lend(15, 0, 1);
      x.bring(15);
    }, x -> x.holder(15));
  }

  private static void lateEnds() {
    Check.is("46: no key", new KeyWard().late(), 0);
    KeyWard house = Check.made(Check::full);
    house.pass(500);
    Check.is("46: none is lent", house.late(), 0);
    for (int i = 0; i < 16; i++) {
      house.lend(i, i % 8, i + 1);
    }
    for (int i = 0; i <= 16; i++) {
      Check.is("46: after " + i + " hours", house.late(), Math.max(0, i - 1));
      house.pass(1);
    }
    Check.is("46: all 16", house.late(), 16);
    for (int i = 0; i < 16; i++) {
      house.lose(i);
      Check.is("46: lost up to " + i, house.late(), 15 - i);
    }
  }

  private static void passEnds() {
    KeyWard house = new KeyWard();
    Check.is("47: the least", house.pass(1), 1);
    Check.is("47: the most", house.pass(500), 501);
    Check.refusesOutside("47: hours", Check.ILLEGAL, 1, 500, x -> x.pass(3), KeyWard::pass);
    KeyWard old = new KeyWard();
    for (int i = 1; i <= 512; i++) {
      Check.is("47: the call " + i, old.pass(500), 500 * i);
    }
  }
}
