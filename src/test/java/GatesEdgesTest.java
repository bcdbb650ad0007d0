/** The edges that the promises 48 to 58, and the terms of gates and cards, name. */
public final class GatesEdgesTest {
  public static void main(String[] args) {
    addGateEnds();
    lockAgainstEnds();
    addCardEnds();
    allowEnds();
    barEnds();
    loadEnds();
    tryCardEnds();
    hoursOfCards();
    listsOfCards();
    zonesAndGuards();
    locksOfGates();
    answersInTheirOrder();
    goOutEnds();
    goOutRefused();
    shutEnds();
    zoneOfEnds();
    barredAtEnds();
    Check.end();
  }

  private static void addGateEnds() {
    for (int i = 0; i < 25; i++) {
      int from = i / 5;
      int to = i % 5;
      if (from == to) {
        Check.refuses("48: from " + from + " to the same", Check.ILLEGAL, x -> {}, x -> x.addGate(from, to));
      } else {
        Check.is("48: from " + from + " to " + to, new KeyWard().addGate(from, to), 0);
      }
    }
    KeyWard house = new KeyWard();
    for (int i = 0; i < 8; i++) {
      Check.is("48: two gates between the same zones", house.addGate(4, 0), i);
      Check.is("48: it is shut", house.shut(i), false);
    }
    Check.refusesOutside("48: from", Check.ILLEGAL, 0, 4, x -> {}, (x, n) -> x.addGate(n, 2));
    Check.refusesOutside("48: to", Check.ILLEGAL, 0, 4, x -> {}, (x, n) -> x.addGate(2, n));
    Check.refuses("48: a 9th", Check.STATE, Check::full, x -> x.addGate(0, 4));
    Check.refuses("48: a 9th from no zone", Check.ILLEGAL, Check::full, x -> x.addGate(5, 4));
    Check.refuses("48: a 9th to no zone", Check.ILLEGAL, Check::full, x -> x.addGate(0, -1));
    Check.refuses("48: a 9th to the same zone", Check.ILLEGAL, Check::full, x -> x.addGate(4, 4));
  }

  private static void lockAgainstEnds() {
    KeyWard house = Check.made(Check::full);
    for (int i = 1; i < 8; i++) {
      Check.is("49: against gates up to " + i, house.lockAgainst(0, i), i);
    }
    Check.is("49: against the last one again", house.lockAgainst(0, 7), 7);
    Check.is("49: the last one is locked against one", house.lockAgainst(7, 0), 1);
    Check.is("49: the last one against another one", house.lockAgainst(7, 6), 2);
    Check.refusesOutside("49: gate", Check.INDEX, 0, 7, Check::full, (x, n) -> x.lockAgainst(n, 0));
    Check.refusesOutside("49: other", Check.INDEX, 0, 7, Check::full, (x, n) -> x.lockAgainst(0, n));
    Check.refuses("49: no such gate, both the same", Check.INDEX, Check::full, x -> x.lockAgainst(8, 8));
    for (int i = 0; i < 8; i++) {
      int gate = i;
      Check.refuses("49: both the same", Check.ILLEGAL, Check::full, x -> x.lockAgainst(gate, gate));
    }
  }

  private static void addCardEnds() {
    KeyWard house = Check.made(x -> Check.persons(x, 8));
    for (int i = 0; i < 12; i++) {
      Check.is("50: card " + i + ", the last person", house.addCard(7), i);
    }
    Check.refusesOutside("50: person", Check.INDEX, 0, 7, x -> Check.persons(x, 8), KeyWard::addCard);
    Check.refuses("50: a 13th", Check.STATE, Check::full, x -> x.addCard(7));
    Check.refuses("50: a 13th of no person", Check.INDEX, Check::full, x -> x.addCard(8));
    KeyWard made = Check.made(x -> Check.persons(x, 1));
    made.addGate(0, 1);
    made.pass(500);
    made.addCard(0);
    Check.is("50: good in the hour in which it was made, without rights", made.tryCard(0, 0), 'r');
    made.allow(0, 0, true);
    Check.is("50: the table is not on it", made.tryCard(0, 0), 'r');
    made.pass(1);
    Check.is("50: good no more in the next hour", made.tryCard(0, 0), 'v');
    KeyWard listed = Check.made(x -> Check.persons(x, 1));
    listed.addGate(0, 1);
    listed.addCard(0);
    listed.bar(0, true);
    listed.addCard(0);
    listed.tryCard(0, 1);
    Check.is("50: the list is not on it", listed.barredAt(0), 0);
  }

  private static void allowEnds() {
    KeyWard house = Check.made(Check::full);
    for (int i = 0; i < 8; i++) {
      Check.is("51: rights up to " + i, house.allow(11, i, true), i + 1);
    }
    Check.is("51: another card has none", house.allow(10, 7, false), 0);
    for (int i = 7; i >= 0; i--) {
      Check.is("51: rights below " + i, house.allow(11, i, false), i);
    }
    for (boolean is : new boolean[] {true, false}) {
      Check.refusesOutside("51: card", Check.INDEX, 0, 11, Check::full, (x, n) -> x.allow(n, 0, is));
      Check.refusesOutside("51: gate", Check.INDEX, 0, 7, Check::full, (x, n) -> x.allow(0, n, is));
    }
  }

  private static void barEnds() {
    KeyWard house = Check.made(Check::full);
    Check.is("52: none is on the list", house.bar(0, false), 0);
    for (int i = 0; i < 12; i++) {
      Check.is("52: cards up to " + i, house.bar(i, true), i + 1);
    }
    Check.is("52: the last one again", house.bar(11, true), 12);
    for (int i = 11; i >= 0; i--) {
      Check.is("52: cards below " + i, house.bar(i, false), i);
    }
    for (boolean is : new boolean[] {true, false}) {
      Check.refusesOutside("52: card", Check.INDEX, 0, 11, Check::full, (x, n) -> x.bar(n, is));
    }
  }

  private static void loadEnds() {
    KeyWard house = Check.made(Check::full);
    Check.is("53: at the hour 0, the last card", house.load(11), 168);
    house.pass(500);
    Check.is("53: at the hour 500", house.load(11), 668);
    Check.is("53: once more in the same hour", house.load(11), 668);
    Check.refusesOutside("53: card", Check.INDEX, 0, 11, Check::full, KeyWard::load);
    for (int i = 0; i < 12; i += 11) {
      int card = i;
      Check.refuses("53: card " + i + " is barred", Check.UNSUPPORTED, x -> {
        Check.full(x);
        x.allow(card, 0, true);
        x.load(card);
        x.allow(card, 0, false);
        x.pass(1);
        x.bar(card, true);
      }, x -> x.load(card));
    }
    KeyWard atGate = Check.made(GatesEdgesTest::walk);
    atGate.bar(0, true);
    atGate.load(1);
    atGate.tryCard(0, 1);
    atGate.bar(0, false);
    Check.is("53: barred at a gate, but not on the list", atGate.load(0), 168);
  }

  /** Gates 0 to 3 from 0 to 1, gates 4 to 7 from 1 to 0; two persons with a card that has all rights. */
  private static void walk(KeyWard house) {
    for (int i = 0; i < 8; i++) {
      house.addGate(i / 4, 1 - i / 4);
    }
    Check.persons(house, 2);
    for (int i = 0; i < 2; i++) {
      house.addCard(i);
      for (int g = 0; g < 8; g++) {
        house.allow(i, g, true);
      }
      house.load(i);
    }
  }

  /** Gates from each zone to the next one, and each person with a card that has all rights. */
  private static void round(KeyWard house, int persons) {
    for (int i = 0; i < 5; i++) {
      house.addGate(i, (i + 1) % 5);
    }
    Check.persons(house, persons);
    for (int i = 0; i < persons; i++) {
      house.addCard(i);
      for (int g = 0; g < 5; g++) {
        house.allow(i, g, true);
      }
      house.load(i);
    }
  }

  /** The card is that of the person of the same number. */
  private static void goTo(KeyWard house, int person, int zone) {
    for (int i = 0; i < zone; i++) {
      Check.is("54: on the way to the zone " + zone, house.tryCard(i, person), '.');
    }
  }

  private static void tryCardEnds() {
    KeyWard house = Check.made(Check::full);
    for (int i = 0; i < 8; i++) {
      house.allow(11, i, true);
    }
    Check.is("54: the rights are not on the card yet", house.tryCard(0, 11), 'r');
    house.load(11);
    Check.is("54: from 0 to 1", house.tryCard(0, 11), '.');
    Check.is("54: from 1 to 2", house.tryCard(1, 11), '.');
    Check.is("54: the last gate, the last card", house.tryCard(7, 11), '.');
    Check.is("54: its person went", house.zoneOf(3), 3);
    Check.is("54: the last gate is open", house.shut(7), true);
    Check.is("54: the other card of the same person", house.tryCard(3, 3), 'r');
    Check.is("54: to the last zone", house.tryCard(3, 11), '.');
    Check.is("54: from the last zone to 0", house.tryCard(4, 11), '.');
    Check.is("54: its person is outside", house.zoneOf(3), 0);
    Check.is("54: a gate stays open when others open", house.shut(0), true);
    Check.refusesOutside("54: gate", Check.INDEX, 0, 7, Check::full, (x, n) -> x.tryCard(n, 0));
    Check.refusesOutside("54: card", Check.INDEX, 0, 11, Check::full, (x, n) -> x.tryCard(0, n));
  }

  private static void hoursOfCards() {
    int[][] rows = {{1, '.'}, {167, '.'}, {168, '.'}, {169, 'v'}, {170, 'v'}, {500, 'v'}};
    for (int[] row : rows) {
      KeyWard house = Check.made(GatesEdgesTest::walk);
      house.pass(row[0]);
      Check.is("54: after " + row[0] + " hours", house.tryCard(0, 0), (char) row[1]);
      Check.is("54: the person after " + row[0] + " hours", house.zoneOf(0), row[1] == '.' ? 1 : 0);
      Check.is("54: the gate after " + row[0] + " hours", house.shut(0), row[1] == '.');
      Check.is("54: loaded anew", house.load(0), row[0] + 168);
      house.pass(168);
      Check.is("54: good up to the hour on it", house.tryCard(row[1] == '.' ? 4 : 0, 0), '.');
      house.pass(1);
      Check.is("54: good no more", house.tryCard(0, 0), 'v');
    }
  }

  private static void listsOfCards() {
    KeyWard house = Check.made(Check::full);
    for (int i = 0; i < 11; i++) {
      house.bar(i, true);
    }
    house.load(11);
    Check.is("54: the list comes ahead of the answer", house.tryCard(7, 11), 'r');
    Check.is("54: all on the list are barred there", house.barredAt(7), 11);
    Check.is("54: at no other gate", house.barredAt(6), 0);
    Check.is("54: the last one on the list", house.tryCard(7, 10), 'b');
    Check.is("54: the first one on the list", house.tryCard(7, 0), 'b');
    Check.is("54: at another gate", house.tryCard(6, 0), 'r');
    house.bar(0, false);
    house.bar(11, true);
    house.load(0);
    Check.is("54: a card that is barred there brings its list, too", house.tryCard(7, 0), 'b');
    Check.is("54: all 12 are barred there", house.barredAt(7), 12);
    Check.is("54: the last card", house.tryCard(7, 11), 'b');
    Check.is("54: a shorter list takes none away", house.barredAt(7), 12);
    KeyWard aged = Check.made(GatesEdgesTest::walk);
    aged.bar(1, true);
    aged.load(0);
    aged.pass(500);
    Check.is("54: a card that is good no more", aged.tryCard(3, 0), 'v');
    Check.is("54: brings its list, too", aged.barredAt(3), 1);
    Check.is("54: 'b' is ahead of 'v'", aged.tryCard(3, 1), 'b');
  }

  private static void zonesAndGuards() {
    for (int i = 0; i < 25; i++) {
      int zone = i / 5;
      int gate = i % 5;
      KeyWard house = Check.made(x -> round(x, 2));
      goTo(house, 0, zone);
      house.shut(gate);
      Check.is("54: in the zone " + zone + ", at the gate " + gate, house.tryCard(gate, 0), zone == gate ? '.' : 'z');
      Check.is("54: the gate " + gate, house.shut(gate), zone == gate);
      Check.is("54: the zone then", house.zoneOf(0), zone == gate ? (zone + 1) % 5 : zone);
      KeyWard guarded = Check.made(x -> round(x, 2));
      goTo(guarded, 0, gate);
      goTo(guarded, 1, zone);
      guarded.setGuard(0, 1);
      boolean isThere = zone == gate || zone == (gate + 1) % 5;
      Check.is("54: the guard in the zone " + zone + ", the gate " + gate, guarded.tryCard(gate, 0), isThere ? '.' : 'g');
      guarded.setGuard(0, -1);
      Check.is("54: without a guard", guarded.tryCard(isThere ? (gate + 1) % 5 : gate, 0), '.');
    }
  }

  private static void locksOfGates() {
    for (int i = 1; i < 8; i++) {
      KeyWard house = Check.made(GatesEdgesTest::walk);
      house.lockAgainst(0, i);
      house.tryCard(i < 4 ? i : 0, 1);
      if (i >= 4) {
        house.shut(0);
        Check.is("54: out of the gate " + i, house.tryCard(i, 1), '.');
      }
      Check.is("54: while the gate " + i + " is open", house.tryCard(0, 0), 'i');
      Check.is("54: the gate is shut", house.shut(0), false);
      Check.is("54: the person is outside", house.zoneOf(0), 0);
      Check.is("54: the gate " + i + " was open", house.shut(i), true);
      Check.is("54: while the gate " + i + " is shut", house.tryCard(0, 0), '.');
    }
    KeyWard chain = Check.made(GatesEdgesTest::walk);
    chain.lockAgainst(0, 1);
    chain.lockAgainst(1, 2);
    chain.tryCard(2, 1);
    Check.is("54: the lock of another gate", chain.tryCard(0, 0), '.');
    chain.goOut(4, 0);
    Check.is("54: one of two gates is open", chain.tryCard(1, 0), 'i');
    chain.shut(0);
    Check.is("54: the other one is open still", chain.tryCard(1, 0), 'i');
    chain.shut(2);
    Check.is("54: both are shut", chain.tryCard(1, 0), '.');
    KeyWard both = Check.made(GatesEdgesTest::walk);
    both.lockAgainst(0, 4);
    both.tryCard(0, 0);
    both.goOut(4, 0);
    Check.is("54: both are open, as a way out always is", both.tryCard(0, 0), 'i');
    Check.is("54: it stays open", both.shut(0), true);
  }

  /**
   * The gate 0 leads from 0 to 1, the gate 1 back, the gate 2 from 0 to 2, the gate 3 from 2 to 3.
   * Of what is against the card 0 of the person 0 at the gate 0, those of the set are there: barred,
   * good no more, no right, another zone, the guard elsewhere, the gate 1 open.
   */
  private static void against(KeyWard house, int set) {
    house.addGate(0, 1);
    house.addGate(1, 0);
    house.addGate(0, 2);
    house.addGate(2, 3);
    Check.persons(house, 3);
    int[] persons = {0, 1, 2, 0};
    for (int i = 0; i < 4; i++) {
      house.addCard(persons[i]);
      for (int g = 0; g < 4; g++) {
        house.allow(i, g, i != 0 || g != 0 || (set & 4) == 0);
      }
      house.load(i);
    }
    if ((set & 8) != 0) {
      house.tryCard(2, 3);
    }
    if ((set & 16) != 0) {
      house.setGuard(0, 1);
      house.tryCard(2, 1);
      house.tryCard(3, 1);
    }
    if ((set & 32) != 0) {
      house.tryCard(0, 2);
      house.shut(0);
      house.goOut(1, 2);
      house.lockAgainst(1, 0);
    }
    if ((set & 1) != 0) {
      house.bar(0, true);
      house.load(2);
      house.allow(2, 0, false);
      house.load(2);
      house.tryCard(0, 2);
    }
    if ((set & 2) != 0) {
      house.pass(169);
    }
  }

  private static void answersInTheirOrder() {
    for (int i = 0; i < 64; i++) {
      int set = i;
      KeyWard house = Check.made(x -> against(x, set));
      char due = set == 0 ? '.' : "bvrzgi".charAt(Integer.numberOfTrailingZeros(set));
      int zone = house.zoneOf(0);
      Check.is("54: of the set " + set + " the first one", house.tryCard(0, 0), due);
      Check.is("54: of the set " + set + ", the zone", house.zoneOf(0), set == 0 ? 1 : zone);
      Check.is("54: of the set " + set + ", the gate", house.shut(0), set == 0);
    }
  }

  private static void goOutEnds() {
    KeyWard house = Check.made(GatesEdgesTest::walk);
    for (int i = 0; i < 4; i++) {
      house.tryCard(i, 0);
      Check.is("55: gates that are open", house.goOut(4 + i, 0), 2 * i + 2);
      Check.is("55: the person is outside", house.zoneOf(0), 0);
    }
    house.tryCard(0, 1);
    Check.is("55: it is open already, as all are", house.goOut(4, 1), 8);
    KeyWard locked = Check.made(GatesEdgesTest::walk);
    for (int i = 0; i < 7; i++) {
      locked.lockAgainst(7, i);
    }
    locked.tryCard(0, 0);
    locked.tryCard(1, 1);
    Check.is("55: a card does not open it", locked.tryCard(7, 0), 'i');
    locked.pass(500);
    locked.setGuard(0, 1);
    locked.goOut(4, 1);
    locked.bar(0, true);
    locked.setAway(0, true);
    Check.is("55: whatever is open, and without a card", locked.goOut(7, 0), 4);
    for (int zone = 1; zone <= 4; zone++) {
      KeyWard out = Check.made(x -> round(x, 8));
      int gate = out.addGate(zone, 0);
      goTo(out, 7, zone);
      for (int i = 0; i < zone; i++) {
        out.shut(i);
      }
      Check.is("55: out of the zone " + zone, out.goOut(gate, 7), 1);
      Check.is("55: outside", out.zoneOf(7), 0);
    }
  }

  private static void goOutRefused() {
    Check.refusesOutside("55: gate", Check.INDEX, 0, 7, GatesEdgesTest::walk, (x, n) -> x.goOut(n, 0));
    Check.refusesOutside("55: person", Check.INDEX, 0, 1, GatesEdgesTest::walk, (x, n) -> x.goOut(4, n));
    Check.refuses("55: the person is outside", Check.UNSUPPORTED, GatesEdgesTest::walk, x -> x.goOut(4, 0));
    Check.refuses("55: it leads in", Check.UNSUPPORTED, GatesEdgesTest::walk, x -> x.goOut(0, 0));
    for (int i = 0; i < 25; i++) {
      int zone = i / 5;
      int gate = i % 5;
      Check.Setting setting = x -> {
        round(x, 2);
        goTo(x, 0, zone);
      };
      if (zone != 4 || gate != 4) {
        Check.refuses("55: in the zone " + zone + ", at the gate " + gate, Check.UNSUPPORTED, setting, x -> x.goOut(gate, 0));
      }
    }
    Check.refuses("55: the gate is open, but the person elsewhere", Check.UNSUPPORTED, x -> {
      walk(x);
      x.tryCard(0, 0);
      x.goOut(4, 0);
    }, x -> x.goOut(4, 1));
  }

  private static void shutEnds() {
    KeyWard house = Check.made(GatesEdgesTest::walk);
    for (int i = 0; i < 8; i++) {
      Check.is("56: gate " + i + " was never opened", house.shut(i), false);
      Check.is("56: gate " + i + " opens", house.tryCard(i, i < 4 ? i % 2 : (i + 1) % 2), i % 4 < 2 ? '.' : 'z');
      Check.is("56: gate " + i, house.shut(i), i % 4 < 2);
      Check.is("56: gate " + i + " is shut", house.shut(i), false);
    }
    Check.refusesOutside("56: gate", Check.INDEX, 0, 7, Check::full, KeyWard::shut);
  }

  private static void zoneOfEnds() {
    KeyWard house = Check.made(x -> round(x, 8));
    Check.is("57: the last person is outside", house.zoneOf(7), 0);
    for (int zone = 1; zone <= 5; zone++) {
      house.tryCard(zone - 1, 7);
      Check.is("57: the last person, zone " + zone, house.zoneOf(7), zone % 5);
      Check.is("57: the first person stays", house.zoneOf(0), 0);
    }
    Check.refusesOutside("57: person", Check.INDEX, 0, 7, Check::full, KeyWard::zoneOf);
  }

  private static void barredAtEnds() {
    KeyWard house = Check.made(Check::full);
    Check.is("58: none at first", house.barredAt(7), 0);
    house.bar(0, true);
    Check.is("58: one on the office's list", house.barredAt(7), 0);
    house.load(1);
    Check.is("58: one on a card's list", house.barredAt(7), 0);
    house.tryCard(7, 1);
    Check.is("58: one at the gate", house.barredAt(7), 1);
    house.bar(0, false);
    Check.is("58: it stays", house.barredAt(7), 1);
    house.tryCard(7, 1);
    Check.is("58: it counts once", house.barredAt(7), 1);
    Check.refusesOutside("58: gate", Check.INDEX, 0, 7, Check::full, KeyWard::barredAt);
  }
}
