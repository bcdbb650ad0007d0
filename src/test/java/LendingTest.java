/** The promises 38 to 47. */
public final class LendingTest {
  public static void main(String[] args) {
    putsOnRings();
    ringRefuses();
    setsDeputies();
    setsAway();
    setsGuards();
    addsPersons();
    lends();
    lendsRings();
    lendsToDeputies();
    lendRefuses();
    deputiesRefuse();
    brings();
    bringRefuses();
    tellsHolders();
    countsLate();
    passes();
    Check.end();
  }

  /** Five keys and three persons. */
  private static void lending(KeyWard house) {
    Check.smallKeys(house, 5);
    Check.persons(house, 3);
  }

  private static void putsOnRings() {
    KeyWard house = Check.made(LendingTest::lending);
    Check.is("38: two keys", house.ring(0, 1), 2);
    Check.is("38: they are on it already", house.ring(1, 0), 2);
    Check.is("38: two more", house.ring(2, 3), 2);
    Check.is("38: both rings", house.ring(3, 0), 4);
    house.lend(2, 0, 1);
    Check.is("38: all are lent", house.holder(1), 0);
    house.bring(0);
    Check.is("38: all are brought back", house.ring(4, 3), 5);
  }

  private static void ringRefuses() {
    int[][] none = {{5, 0}, {-1, 0}, {0, 5}, {0, -1}, {5, 5}};
    for (int[] row : none) {
      Check.refuses("38: no such key", Check.INDEX, LendingTest::lending, x -> x.ring(row[0], row[1]));
    }
    Check.refuses("38: the same", Check.ILLEGAL, LendingTest::lending, x -> x.ring(1, 1));
    Check.refuses("38: the same, and lost", Check.ILLEGAL, x -> {
      lending(x);
      x.lose(1);
    }, x -> x.ring(1, 1));
    Check.Setting pairs = x -> {
      lending(x);
      x.ring(0, 1);
      x.ring(2, 3);
    };
    Check.Setting lent = x -> {
      pairs.of(x);
      x.lend(3, 0, 1);
    };
    Check.Setting lost = x -> {
      pairs.of(x);
      x.lose(3);
    };
    int[][] pairsOfKeys = {{0, 2}, {2, 0}, {0, 3}, {3, 4}, {2, 3}};
    for (int[] row : pairsOfKeys) {
      Check.refuses("38: one is lent", Check.UNSUPPORTED, lent, x -> x.ring(row[0], row[1]));
      Check.refuses("38: one is lost", Check.UNSUPPORTED, lost, x -> x.ring(row[0], row[1]));
    }
  }

  private static void setsDeputies() {
    KeyWard house = Check.made(LendingTest::lending);
    Check.is("39: none before", house.setDeputy(0, 1), -1);
    Check.is("39: the one before", house.setDeputy(0, 2), 1);
    Check.is("39: none", house.setDeputy(0, -1), 2);
    Check.is("39: none before", house.setDeputy(0, 2), -1);
    Check.is("39: of another person", house.setDeputy(2, 0), -1);
    int[][] none = {{3, 0}, {-1, 0}, {0, 3}, {0, -2}, {3, 3}, {-1, -1}};
    for (int[] row : none) {
      Check.refuses("39: no such person", Check.INDEX, LendingTest::lending, x -> x.setDeputy(row[0], row[1]));
    }
    Check.refuses("39: the same", Check.ILLEGAL, LendingTest::lending, x -> x.setDeputy(2, 2));
  }

  private static void setsAway() {
    KeyWard house = Check.made(LendingTest::lending);
    Check.is("40: there at first", house.setAway(0, true), false);
    Check.is("40: away", house.setAway(0, true), true);
    Check.is("40: back", house.setAway(0, false), true);
    Check.is("40: there", house.setAway(0, false), false);
    Check.is("40: another person", house.setAway(2, true), false);
    Check.refuses("40: person 3 of 3", Check.INDEX, LendingTest::lending, x -> x.setAway(3, true));
    Check.refuses("40: person -1", Check.INDEX, LendingTest::lending, x -> x.setAway(-1, true));
  }

  private static void setsGuards() {
    KeyWard house = Check.made(LendingTest::lending);
    Check.is("41: none before", house.setGuard(0, 1), -1);
    Check.is("41: the one before", house.setGuard(0, 2), 1);
    Check.is("41: a deputy is another thing", house.setDeputy(0, 1), -1);
    Check.is("41: none", house.setGuard(0, -1), 2);
    Check.is("41: none before", house.setGuard(0, 2), -1);
    int[][] none = {{3, 0}, {-1, 0}, {0, 3}, {0, -2}, {3, 3}, {-1, -1}};
    for (int[] row : none) {
      Check.refuses("41: no such person", Check.INDEX, LendingTest::lending, x -> x.setGuard(row[0], row[1]));
    }
    Check.refuses("41: the same", Check.ILLEGAL, LendingTest::lending, x -> x.setGuard(2, 2));
  }

  private static void addsPersons() {
    KeyWard house = new KeyWard();
    for (int i = 0; i < 8; i++) {
      Check.is("42: the number", house.addPerson(), i);
    }
    Check.is("42: outside at first", house.zoneOf(7), 0);
    Check.is("42: there at first", house.setAway(7, true), false);
    Check.refuses("42: a 9th", Check.STATE, x -> Check.persons(x, 8), KeyWard::addPerson);
  }

  private static void lends() {
    KeyWard house = Check.made(LendingTest::lending);
    Check.is("43: at the hour 0", house.lend(0, 2, 200), 200);
    Check.is("43: who has it", house.holder(0), 2);
    house.pass(7);
    Check.is("43: at the hour 7", house.lend(1, 2, 1), 8);
    Check.is("43: one person takes many", house.holder(1), 2);
    house.bring(0);
    Check.is("43: once more", house.lend(0, 1, 3), 10);
  }

  private static void lendsRings() {
    KeyWard house = Check.made(LendingTest::lending);
    house.ring(0, 1);
    house.ring(1, 2);
    house.lose(2);
    house.lend(1, 0, 4);
    Check.is("43: the key", house.holder(1), 0);
    Check.is("43: the other one on its ring", house.holder(0), 0);
    Check.refuses("43: not the lost one", Check.MISSING, x -> {
      lending(x);
      x.ring(0, 1);
      x.lose(1);
      x.lend(0, 0, 4);
    }, x -> x.holder(1));
    house.lose(1);
    house.bring(0);
    Check.is("43: one on its ring is lent and lost", house.lend(0, 1, 5), 5);
    Check.is("43: the lost one stays where it is", house.holder(1), 0);
    house.pass(5);
    Check.is("43: the hour of each on the ring", house.late(), 0);
    house.pass(1);
    Check.is("43: the hour of each on the ring", house.late(), 1);
  }

  private static void lendsToDeputies() {
    KeyWard house = Check.made(LendingTest::lending);
    house.setDeputy(0, 1);
    house.setDeputy(1, 2);
    house.lend(0, 0, 1);
    Check.is("43: one who is there", house.holder(0), 0);
    house.setAway(0, true);
    house.lend(1, 0, 1);
    Check.is("43: the deputy", house.holder(1), 1);
    house.setAway(1, true);
    house.lend(2, 0, 1);
    Check.is("43: the deputy's deputy", house.holder(2), 2);
    house.setAway(2, true);
    house.setDeputy(2, 0);
    house.setAway(1, false);
    house.lend(3, 2, 1);
    Check.is("43: by way of the first one", house.holder(3), 1);
    KeyWard all = Check.made(x -> Check.smallKeys(x, 1));
    Check.persons(all, 8);
    for (int i = 0; i < 7; i++) {
      all.setAway(i, true);
      all.setDeputy(i, i + 1);
    }
    Check.is("43: the longest way", all.lend(0, 0, 1), 1);
    Check.is("43: the longest way", all.holder(0), 7);
  }

  private static void lendRefuses() {
    Check.Setting some = LendingTest::lending;
    int[][] none = {{5, 0}, {-1, 0}, {0, 3}, {0, -1}};
    for (int[] row : none) {
      Check.refuses("43: no key or person", Check.INDEX, some, x -> x.lend(row[0], row[1], 0));
    }
    Check.refuses("43: 0 hours", Check.ILLEGAL, some, x -> x.lend(0, 0, 0));
    Check.refuses("43: 201 hours", Check.ILLEGAL, some, x -> x.lend(0, 0, 201));
    Check.Setting ring = x -> {
      lending(x);
      x.ring(0, 1);
      x.ring(0, 2);
      x.lose(2);
    };
    Check.refuses("43: it is lost", Check.UNSUPPORTED, ring, x -> x.lend(2, 0, 1));
    Check.refuses("43: it is lost, and 0 hours", Check.ILLEGAL, ring, x -> x.lend(2, 0, 0));
    Check.Setting lent = x -> {
      ring.of(x);
      x.lend(0, 1, 9);
    };
    Check.refuses("43: it is lent", Check.UNSUPPORTED, lent, x -> x.lend(0, 0, 1));
    Check.refuses("43: another one on its ring is lent", Check.UNSUPPORTED, lent, x -> x.lend(1, 0, 1));
    Check.refuses("43: it is lost, and another one lent", Check.UNSUPPORTED, lent, x -> x.lend(2, 0, 1));
  }

  private static void deputiesRefuse() {
    Check.Setting away = x -> {
      lending(x);
      x.setAway(0, true);
    };
    Check.refuses("43: away without a deputy", Check.UNSUPPORTED, away, x -> x.lend(0, 0, 1));
    Check.Setting both = x -> {
      away.of(x);
      x.setDeputy(0, 1);
      x.setAway(1, true);
    };
    Check.refuses("43: the deputy is away without one", Check.UNSUPPORTED, both, x -> x.lend(0, 0, 1));
    Check.Setting again = x -> {
      both.of(x);
      x.setDeputy(1, 0);
    };
    Check.refuses("43: the first one would come again", Check.UNSUPPORTED, again, x -> x.lend(0, 0, 1));
    Check.refuses("43: another one would come again", Check.UNSUPPORTED, x -> {
      again.of(x);
      x.setDeputy(2, 0);
      x.setAway(2, true);
    }, x -> x.lend(0, 2, 1));
  }

  private static void brings() {
    KeyWard house = Check.made(LendingTest::lending);
    house.ring(0, 1);
    house.lend(0, 0, 5);
    house.lend(2, 0, 2);
    house.pass(5);
    Check.is("44: at the last hour", house.bring(1), 0);
    Check.is("44: late by three hours", house.bring(2), 3);
    house.lend(2, 0, 9);
    Check.is("44: ahead of its hour", house.bring(2), 0);
    house.lend(0, 0, 1);
    house.pass(2);
    house.lose(1);
    Check.is("44: late by one hour", house.bring(0), 1);
    Check.is("44: the lost one on the ring stays", house.holder(1), 0);
    Check.refuses("44: both on the ring are back", Check.MISSING, x -> {
      lending(x);
      x.ring(0, 1);
      x.lend(0, 0, 5);
      x.bring(1);
    }, x -> x.holder(0));
  }

  private static void bringRefuses() {
    Check.refuses("44: key 5 of 5", Check.INDEX, LendingTest::lending, x -> x.bring(5));
    Check.refuses("44: key -1", Check.INDEX, LendingTest::lending, x -> x.bring(-1));
    Check.refuses("44: it is not lent", Check.UNSUPPORTED, LendingTest::lending, x -> x.bring(0));
    Check.Setting lost = x -> {
      lending(x);
      x.ring(0, 1);
      x.lend(0, 0, 5);
      x.lose(0);
    };
    Check.refuses("44: it is lost", Check.UNSUPPORTED, lost, x -> x.bring(0));
    Check.refuses("44: it was brought back", Check.UNSUPPORTED, x -> {
      lost.of(x);
      x.bring(1);
    }, x -> x.bring(1));
  }

  private static void tellsHolders() {
    KeyWard house = Check.made(LendingTest::lending);
    house.lend(4, 2, 5);
    Check.is("45: who has it", house.holder(4), 2);
    house.pass(9);
    Check.is("45: when it is late", house.holder(4), 2);
    house.lose(4);
    Check.is("45: when it is lost", house.holder(4), 2);
    Check.refuses("45: key 5 of 5", Check.INDEX, LendingTest::lending, x -> x.holder(5));
    Check.refuses("45: key -1", Check.INDEX, LendingTest::lending, x -> x.holder(-1));
    Check.refuses("45: it is not lent", Check.MISSING, LendingTest::lending, x -> x.holder(0));
  }

  private static void countsLate() {
    KeyWard house = Check.made(LendingTest::lending);
    house.ring(0, 1);
    house.lend(0, 0, 3);
    house.lend(2, 1, 4);
    house.pass(3);
    Check.is("46: at the last hour", house.late(), 0);
    house.pass(1);
    Check.is("46: the two on the ring", house.late(), 2);
    house.pass(1);
    Check.is("46: one more", house.late(), 3);
    house.lose(1);
    Check.is("46: lost ones not", house.late(), 2);
    house.bring(2);
    Check.is("46: brought back", house.late(), 1);
    house.bring(0);
    Check.is("46: none is left", house.late(), 0);
  }

  private static void passes() {
    KeyWard house = new KeyWard();
    Check.is("47: one hour", house.pass(1), 1);
    Check.is("47: 500 hours", house.pass(500), 501);
    Check.refuses("47: 0 hours", Check.ILLEGAL, x -> x.pass(3), x -> x.pass(0));
    Check.refuses("47: 501 hours", Check.ILLEGAL, x -> x.pass(3), x -> x.pass(501));
    Check.refuses("47: -1 hours", Check.ILLEGAL, x -> x.pass(3), x -> x.pass(-1));
  }
}
