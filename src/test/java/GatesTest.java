/** The promises 48 to 58. */
public final class GatesTest {
  public static void main(String[] args) {
    addsGates();
    gateRefuses();
    locksGates();
    addsCards();
    allows();
    bars();
    loads();
    loadWritesWhatIsThere();
    opensGates();
    barsAtGates();
    agesCards();
    asksForZoneAndGuard();
    asksForLocks();
    saysTheFirst();
    tryRefuses();
    goesOut();
    goOutRefuses();
    shuts();
    tellsZones();
    countsBarred();
    Check.end();
  }

  /**
   * Gates from 0 to 1, from 1 to 2, from 2 to 0, and from 1 to 0; three persons; a card of the
   * person 0, with all rights on it, and one of the person 1 with none.
   */
  private static void gates(KeyWard house) {
    house.addGate(0, 1);
    house.addGate(1, 2);
    house.addGate(2, 0);
    house.addGate(1, 0);
    Check.persons(house, 3);
    house.addCard(0);
    house.addCard(1);
    for (int i = 0; i < 4; i++) {
      house.allow(0, i, true);
    }
    house.load(0);
  }

  private static void addsGates() {
    KeyWard house = new KeyWard();
    for (int i = 0; i < 8; i++) {
      Check.is("48: the number", house.addGate(i % 4, 4), i);
    }
    Check.is("48: it is shut", house.shut(7), false);
    Check.is("48: no card is barred", house.barredAt(7), 0);
  }

  private static void gateRefuses() {
    int[][] wrong = {{-1, 0}, {5, 0}, {0, -1}, {0, 5}, {0, 0}, {4, 4}, {5, 5}};
    Check.Setting eight = x -> {
      for (int i = 0; i < 8; i++) {
        x.addGate(0, 1);
      }
    };
    for (int[] row : wrong) {
      Check.refuses("48: no such zones", Check.ILLEGAL, GatesTest::gates, x -> x.addGate(row[0], row[1]));
      Check.refuses("48: no such zones, and 8 gates", Check.ILLEGAL, eight, x -> x.addGate(row[0], row[1]));
    }
    Check.refuses("48: a 9th", Check.STATE, eight, x -> x.addGate(0, 1));
  }

  private static void locksGates() {
    KeyWard house = Check.made(GatesTest::gates);
    Check.is("49: one", house.lockAgainst(0, 1), 1);
    Check.is("49: it is so both ways", house.lockAgainst(1, 0), 1);
    Check.is("49: another one", house.lockAgainst(2, 0), 1);
    Check.is("49: the first one has two then", house.lockAgainst(0, 2), 2);
    Check.is("49: a third one", house.lockAgainst(0, 3), 3);
    int[][] none = {{4, 0}, {-1, 0}, {0, 4}, {0, -1}, {4, 4}};
    for (int[] row : none) {
      Check.refuses("49: no such gate", Check.INDEX, GatesTest::gates, x -> x.lockAgainst(row[0], row[1]));
    }
    Check.refuses("49: the same", Check.ILLEGAL, GatesTest::gates, x -> x.lockAgainst(1, 1));
  }

  private static void addsCards() {
    KeyWard house = Check.made(x -> Check.persons(x, 2));
    for (int i = 0; i < 12; i++) {
      Check.is("50: the number", house.addCard(i % 2), i);
    }
    KeyWard late = Check.made(GatesTest::gates);
    late.pass(5);
    Check.is("50: a new card", late.addCard(2), 2);
    Check.is("50: without rights", late.tryCard(0, 2), 'r');
    late.pass(1);
    Check.is("50: good up to the hour in which it was made", late.tryCard(0, 2), 'v');
    Check.Setting twelve = x -> {
      x.addPerson();
      for (int i = 0; i < 12; i++) {
        x.addCard(0);
      }
    };
    Check.refuses("50: person 3 of 3", Check.INDEX, GatesTest::gates, x -> x.addCard(3));
    Check.refuses("50: person -1, and 12 cards", Check.INDEX, twelve, x -> x.addCard(-1));
    Check.refuses("50: a 13th", Check.STATE, twelve, x -> x.addCard(0));
  }

  private static void allows() {
    KeyWard house = Check.made(GatesTest::gates);
    Check.is("51: one right", house.allow(1, 3, true), 1);
    Check.is("51: the same one", house.allow(1, 3, true), 1);
    Check.is("51: another one", house.allow(1, 0, true), 2);
    Check.is("51: one less", house.allow(1, 3, false), 1);
    Check.is("51: one that was not there", house.allow(1, 3, false), 1);
    Check.is("51: another card", house.allow(0, 0, false), 3);
    Check.is("51: what is on the card stays", house.tryCard(0, 0), '.');
    int[][] none = {{2, 0}, {-1, 0}, {0, 4}, {0, -1}};
    for (int[] row : none) {
      Check.refuses("51: no card or gate", Check.INDEX, GatesTest::gates, x -> x.allow(row[0], row[1], true));
      Check.refuses("51: no card or gate", Check.INDEX, GatesTest::gates, x -> x.allow(row[0], row[1], false));
    }
  }

  private static void bars() {
    KeyWard house = Check.made(GatesTest::gates);
    Check.is("52: one", house.bar(0, true), 1);
    Check.is("52: the same one", house.bar(0, true), 1);
    Check.is("52: another one", house.bar(1, true), 2);
    Check.is("52: one less", house.bar(0, false), 1);
    Check.is("52: one that was not there", house.bar(0, false), 1);
    house.bar(0, true);
    Check.is("52: no gate knows it", house.tryCard(0, 0), '.');
    Check.refuses("52: card 2 of 2", Check.INDEX, GatesTest::gates, x -> x.bar(2, true));
    Check.refuses("52: card -1", Check.INDEX, GatesTest::gates, x -> x.bar(-1, false));
  }

  private static void loads() {
    KeyWard house = Check.made(GatesTest::gates);
    Check.is("53: 168 hours from 0", house.load(0), 168);
    house.pass(10);
    Check.is("53: 168 hours from 10", house.load(1), 178);
    house.bar(0, true);
    Check.is("53: another card is barred", house.load(1), 178);
    house.bar(0, false);
    Check.is("53: no more barred", house.load(0), 178);
    Check.refuses("53: card 2 of 2", Check.INDEX, GatesTest::gates, x -> x.load(2));
    Check.refuses("53: card -1", Check.INDEX, GatesTest::gates, x -> x.load(-1));
    Check.refuses("53: it is barred", Check.UNSUPPORTED, x -> {
      gates(x);
      x.pass(9);
      x.allow(0, 0, false);
      x.bar(0, true);
      x.bar(1, true);
    }, x -> x.load(0));
  }

  private static void loadWritesWhatIsThere() {
    KeyWard house = Check.made(GatesTest::gates);
    house.allow(1, 0, true);
    Check.is("53: the table is not on the card", house.tryCard(0, 1), 'r');
    house.load(1);
    Check.is("53: now it is", house.tryCard(0, 1), '.');
    house.allow(0, 0, false);
    house.load(0);
    Check.is("53: a right is taken", house.tryCard(0, 0), 'r');
    house.bar(1, true);
    house.load(0);
    house.bar(1, false);
    house.tryCard(1, 0);
    Check.is("53: the list as it was", house.barredAt(1), 1);
    house.load(0);
    house.tryCard(2, 0);
    Check.is("53: the list as it is", house.barredAt(2), 0);
  }

  private static void opensGates() {
    KeyWard house = Check.made(GatesTest::gates);
    Check.is("54: from 0 to 1", house.tryCard(0, 0), '.');
    Check.is("54: the person went", house.zoneOf(0), 1);
    Check.is("54: no other person", house.zoneOf(1), 0);
    Check.is("54: from 1 to 2", house.tryCard(1, 0), '.');
    Check.is("54: the person went", house.zoneOf(0), 2);
    Check.is("54: from 2 to 0", house.tryCard(2, 0), '.');
    Check.is("54: an open gate", house.tryCard(0, 0), '.');
    Check.is("54: the gate was open", house.shut(0), true);
    Check.is("54: the gate was not tried", house.shut(3), false);
  }

  private static void barsAtGates() {
    KeyWard house = Check.made(GatesTest::gates);
    house.allow(1, 0, true);
    house.load(1);
    house.bar(1, true);
    house.load(0);
    Check.is("54: the list has not come yet", house.tryCard(0, 1), '.');
    house.goOut(3, 1);
    Check.is("54: it comes, though the card has no business", house.tryCard(1, 0), 'z');
    Check.is("54: only at this gate", house.tryCard(0, 1), '.');
    house.goOut(3, 1);
    Check.is("54: it comes", house.tryCard(0, 0), '.');
    Check.is("54: now it is barred", house.tryCard(0, 1), 'b');
    house.bar(1, false);
    house.load(1);
    Check.is("54: the gate forgets nothing", house.tryCard(0, 1), 'b');
    KeyWard own = Check.made(GatesTest::gates);
    own.bar(0, true);
    own.bar(1, true);
    own.bar(0, false);
    own.load(0);
    own.bar(0, true);
    own.bar(1, false);
    own.load(1);
    own.tryCard(0, 1);
    Check.is("54: another card brings the list", own.tryCard(0, 0), 'b');
    Check.is("54: its own list comes, too", own.barredAt(0), 2);
  }

  private static void agesCards() {
    KeyWard house = Check.made(GatesTest::gates);
    house.pass(168);
    Check.is("54: the last hour", house.tryCard(0, 0), '.');
    house.pass(1);
    Check.is("54: one hour more", house.tryCard(1, 0), 'v');
    Check.is("54: the person stays", house.zoneOf(0), 1);
    Check.is("54: the gate stays shut", house.shut(1), false);
    house.load(0);
    Check.is("54: loaded again", house.tryCard(1, 0), '.');
  }

  private static void asksForZoneAndGuard() {
    KeyWard house = Check.made(GatesTest::gates);
    Check.is("54: the person is elsewhere", house.tryCard(1, 0), 'z');
    Check.is("54: no right", house.tryCard(0, 1), 'r');
    house.setGuard(0, 1);
    Check.is("54: the guard is in the zone from which it leads", house.tryCard(0, 0), '.');
    Check.is("54: the guard is elsewhere", house.tryCard(1, 0), 'g');
    Check.is("54: the guard is in the zone to which it leads", house.tryCard(3, 0), '.');
    house.tryCard(0, 0);
    house.setGuard(0, -1);
    Check.is("54: no guard any more", house.tryCard(1, 0), '.');
    house.setGuard(1, 0);
    house.allow(1, 0, true);
    house.load(1);
    Check.is("54: another one's guard", house.tryCard(0, 1), 'g');
    house.setAway(0, true);
    house.tryCard(2, 0);
    Check.is("54: a guard who is away is in the zone", house.tryCard(0, 1), '.');
  }

  private static void asksForLocks() {
    KeyWard house = Check.made(GatesTest::gates);
    house.lockAgainst(1, 0);
    house.tryCard(0, 0);
    Check.is("54: the other gate is open", house.tryCard(1, 0), 'i');
    Check.is("54: a gate without lock", house.tryCard(3, 0), '.');
    Check.is("54: the gate itself is open", house.tryCard(0, 0), '.');
    house.shut(0);
    Check.is("54: the other gate is shut", house.tryCard(1, 0), '.');
    house.tryCard(2, 0);
    Check.is("54: the other way round", house.tryCard(0, 0), 'i');
  }

  private static void saysTheFirst() {
    KeyWard house = Check.made(GatesTest::gates);
    house.lockAgainst(1, 3);
    house.addGate(2, 1);
    house.addGate(1, 4);
    house.addGate(4, 0);
    house.setGuard(0, 1);
    house.setGuard(1, 2);
    house.allow(0, 1, false);
    house.bar(1, true);
    house.load(0);
    Check.is("54: 'r' ahead of 'z'", house.tryCard(1, 0), 'r');
    house.bar(0, true);
    house.pass(169);
    Check.is("54: 'v' ahead of 'r'", house.tryCard(1, 0), 'v');
    Check.is("54: 'b' ahead of 'v'", house.tryCard(1, 1), 'b');
    KeyWard locked = Check.made(GatesTest::gates);
    locked.lockAgainst(1, 3);
    locked.tryCard(0, 0);
    locked.allow(1, 0, true);
    locked.load(1);
    locked.tryCard(0, 1);
    locked.goOut(3, 1);
    locked.setGuard(0, 1);
    Check.is("54: 'g' ahead of 'i'", locked.tryCard(1, 0), 'g');
    locked.setGuard(0, -1);
    Check.is("54: 'i'", locked.tryCard(1, 0), 'i');
    locked.setGuard(0, 2);
    locked.shut(3);
    Check.is("54: 'z' ahead of 'g'", locked.tryCard(2, 0), 'z');
  }

  private static void tryRefuses() {
    int[][] none = {{4, 0}, {-1, 0}, {0, 2}, {0, -1}};
    Check.Setting listed = x -> {
      gates(x);
      x.bar(1, true);
      x.load(0);
    };
    for (int[] row : none) {
      Check.refuses("54: no gate or card", Check.INDEX, listed, x -> x.tryCard(row[0], row[1]));
    }
  }

  private static void goesOut() {
    KeyWard house = Check.made(GatesTest::gates);
    house.lockAgainst(3, 0);
    house.tryCard(0, 0);
    Check.is("55: whatever is open", house.goOut(3, 0), 2);
    Check.is("55: the person is outside", house.zoneOf(0), 0);
    Check.is("55: the gate is open", house.shut(3), true);
    house.setGuard(0, 1);
    house.tryCard(0, 0);
    house.shut(0);
    house.setGuard(0, 2);
    Check.is("55: only this gate is open", house.goOut(3, 0), 1);
    house.tryCard(0, 0);
  }

  private static void goOutRefuses() {
    int[][] none = {{4, 0}, {-1, 0}, {3, 3}, {3, -1}};
    Check.Setting in = x -> {
      gates(x);
      x.tryCard(0, 0);
    };
    for (int[] row : none) {
      Check.refuses("55: no gate or person", Check.INDEX, in, x -> x.goOut(row[0], row[1]));
    }
    Check.refuses("55: it leads elsewhere", Check.UNSUPPORTED, in, x -> x.goOut(1, 0));
    Check.refuses("55: the person is in another zone", Check.UNSUPPORTED, in, x -> x.goOut(2, 0));
    Check.refuses("55: the person is outside", Check.UNSUPPORTED, in, x -> x.goOut(3, 1));
  }

  private static void shuts() {
    KeyWard house = Check.made(GatesTest::gates);
    Check.is("56: shut at first", house.shut(0), false);
    house.tryCard(0, 0);
    Check.is("56: another one", house.shut(1), false);
    Check.is("56: it was open", house.shut(0), true);
    Check.is("56: it is shut", house.shut(0), false);
    Check.refuses("56: gate 4 of 4", Check.INDEX, GatesTest::gates, x -> x.shut(4));
    Check.refuses("56: gate -1", Check.INDEX, GatesTest::gates, x -> x.shut(-1));
  }

  private static void tellsZones() {
    KeyWard house = Check.made(GatesTest::gates);
    Check.is("57: outside", house.zoneOf(2), 0);
    house.addGate(0, 4);
    house.allow(0, 4, true);
    house.load(0);
    house.tryCard(4, 0);
    Check.is("57: the last zone", house.zoneOf(0), 4);
    Check.refuses("57: person 3 of 3", Check.INDEX, GatesTest::gates, x -> x.zoneOf(3));
    Check.refuses("57: person -1", Check.INDEX, GatesTest::gates, x -> x.zoneOf(-1));
  }

  private static void countsBarred() {
    KeyWard house = Check.made(GatesTest::gates);
    house.addCard(2);
    house.bar(1, true);
    house.bar(2, true);
    Check.is("58: the office tells no gate", house.barredAt(0), 0);
    house.load(0);
    Check.is("58: nor does the card alone", house.barredAt(0), 0);
    house.tryCard(0, 0);
    Check.is("58: two came on the card", house.barredAt(0), 2);
    Check.is("58: another gate", house.barredAt(1), 0);
    house.bar(1, false);
    house.load(0);
    house.tryCard(0, 0);
    Check.is("58: they stay", house.barredAt(0), 2);
    Check.refuses("58: gate 4 of 4", Check.INDEX, GatesTest::gates, x -> x.barredAt(4));
    Check.refuses("58: gate -1", Check.INDEX, GatesTest::gates, x -> x.barredAt(-1));
  }
}
