import java.util.NoSuchElementException;

/**
 * The locks and keys of a great house, as ../shared/DOC.md promises them.
 *
 * <p>Depths stand as bits of a long, so that keys, pins and blocks are compared in one step: the
 * byte c belongs to the chamber c, and its bit d to the depth d. The bits 6 and 7 of each byte stay
 * free, so that a shift by one never reaches another chamber.
 *
 * <p>Sets of keys, doors, gates and cards stand as bits of an int.
 *
 * <p>All rows are made in the constructor and used again, as the room of a run is small.
 */
public final class KeyWard {
  private static final int NONE = -1;
  private static final int MOST_CHAMBERS = 6;
  private static final int MOST_DEPTHS = 6;
  private static final int MOST_KEYS = 16;
  private static final int MOST_DOORS = 10;
  private static final int MOST_RULES = 12;
  private static final int MOST_BLOCKS = 4;
  private static final int MOST_PERSONS = 8;
  private static final int MOST_GATES = 8;
  private static final int MOST_CARDS = 12;
  private static final int LAST_PROFILE = 7;
  private static final int LAST_ZONE = 4;
  private static final int OUTSIDE = 0;
  private static final int HOURS_LOADED = 168;
  private static final int MOST_CHAMBERS_TRIED = 4;
  private static final int BITS_A_CHAMBER = 8;
  private static final long CHAMBER_BITS = 255L;
  private static final long NO_CUTS = 0L;

  private final Machine machine = new Machine();
  private final Search search = new Search();
  private final Key[] keys = new Key[MOST_KEYS];
  private final Door[] doors = new Door[MOST_DOORS];
  private final Rule[] rules = new Rule[MOST_RULES];
  private final long[] blocks = new long[MOST_BLOCKS];
  private final Person[] persons = new Person[MOST_PERSONS];
  private final Gate[] gates = new Gate[MOST_GATES];
  private final Card[] cards = new Card[MOST_CARDS];
  private int keyCount;
  private int doorCount;
  private int ruleCount;
  private int blockCount;
  private int personCount;
  private int gateCount;
  private int cardCount;
  private boolean thinAreFine = true;
  private int control = NONE;
  private int hour;
  private int barredCards;

  public KeyWard() {
    for (int i = 0; i < MOST_KEYS; i++) {
      keys[i] = new Key();
    }
    for (int i = 0; i < MOST_DOORS; i++) {
      doors[i] = new Door();
    }
    for (int i = 0; i < MOST_RULES; i++) {
      rules[i] = new Rule();
    }
    for (int i = 0; i < MOST_PERSONS; i++) {
      persons[i] = new Person();
    }
    for (int i = 0; i < MOST_GATES; i++) {
      gates[i] = new Gate();
    }
    for (int i = 0; i < MOST_CARDS; i++) {
      cards[i] = new Card();
    }
  }

  // ---- keys

  public int machine(int chambers, int depths, int apart)
      throws IllegalArgumentException, UnsupportedOperationException {
    boolean isFine =
        isBetween(chambers, 3, MOST_CHAMBERS)
            && isBetween(depths, 2, MOST_DEPTHS)
            && isBetween(apart, 1, 5);
    if (!isFine) {
      throw new IllegalArgumentException("a number of the machine is out of range");
    }
    if (keyCount > 0 || blockCount > 0) {
      throw new UnsupportedOperationException("there is a key or a block");
    }
    machine.setUp(chambers, depths, apart);
    return machine.countWithin(machine.allDepths(), apart);
  }

  public int cut(int depth) throws IllegalArgumentException, IllegalStateException {
    if (!isBetween(depth, 0, machine.depths - 1) || !machine.canFollowTold(depth)) {
      throw new IllegalArgumentException("no such depth, or too far from the one before");
    }
    if (machine.toldCount >= machine.chambers) {
      throw new IllegalStateException("all depths are told");
    }
    return machine.tell(depth);
  }

  public int forget() {
    return machine.dropTold();
  }

  public int addKey()
      throws IllegalArgumentException, UnsupportedOperationException, IllegalStateException {
    if (machine.toldCount < machine.chambers) {
      throw new IllegalArgumentException("not all depths are told");
    }
    if (isThere(machine.told)) {
      throw new UnsupportedOperationException("the key is there");
    }
    needRoomForKey();
    int key = makeKey(machine.told);
    machine.dropTold();
    return key;
  }

  public int depthOf(int key, int chamber) throws IndexOutOfBoundsException {
    needKey(key);
    needChamber(chamber);
    return depthIn(keys[key].cuts, chamber);
  }

  // ---- doors

  public int addDoor() throws IllegalStateException {
    if (doorCount >= MOST_DOORS) {
      throw new IllegalStateException("there are 10 doors");
    }
    int door = doorCount;
    doorCount = door + 1;
    return door;
  }

  public int wish(int door, int key, boolean is)
      throws IndexOutOfBoundsException, UnsupportedOperationException {
    needDoor(door);
    needKey(key);
    if (is && !canBeWished(doors[door], key)) {
      throw new UnsupportedOperationException("the key is lost or does not fit");
    }
    doors[door].wished = with(doors[door].wished, key, is);
    return Integer.bitCount(doors[door].wished);
  }

  public boolean isWished(int door, int key) throws IndexOutOfBoundsException {
    needDoor(door);
    needKey(key);
    return has(doors[door].wished, key);
  }

  public int pins(int door, int chamber) throws IndexOutOfBoundsException {
    needDoor(door);
    needChamber(chamber);
    return Long.bitCount(bitsIn(pinsOf(doors[door].wished), chamber));
  }

  public boolean opens(int door, int key) throws IndexOutOfBoundsException {
    needDoor(door);
    needKey(key);
    return isOpenedBy(doors[door], pinsOf(doors[door].wished), key);
  }

  public int strays(int door) throws IndexOutOfBoundsException {
    needDoor(door);
    return countStrays(doors[door]);
  }

  public int admits(int door) throws IndexOutOfBoundsException {
    needDoor(door);
    return countAdmitted(doors[door]);
  }

  // ---- searching and losing

  public int find(int doors)
      throws IllegalArgumentException, NoSuchElementException, IllegalStateException {
    needDoors(doors);
    long cuts = searchCuts(doors, NONE, NONE);
    needFound(cuts);
    needRoomForKey();
    return makeWishedKey(cuts, doors);
  }

  public int lose(int key) throws IndexOutOfBoundsException, UnsupportedOperationException {
    needKey(key);
    if (keys[key].isLost) {
      throw new UnsupportedOperationException("the key was lost");
    }
    keys[key].isLost = true;
    return countOpened(key);
  }

  public int unsafe() {
    return countUnsafe();
  }

  public int replace(int key)
      throws IndexOutOfBoundsException,
          UnsupportedOperationException,
          NoSuchElementException,
          IllegalStateException {
    needKey(key);
    int wishing = doorsWishing(key);
    if (!keys[key].isLost || wishing == 0) {
      throw new UnsupportedOperationException("the key is not lost, or wished for no door");
    }
    long cuts = searchCuts(wishing, key, NONE);
    needFound(cuts);
    needRoomForKey();
    setWishes(wishing, key, false);
    return makeWishedKey(cuts, wishing);
  }

  // ---- profiles and pins

  public int setBlank(int profile) throws IllegalArgumentException {
    if (!isBetween(profile, 0, LAST_PROFILE)) {
      throw new IllegalArgumentException("there is no such profile");
    }
    int before = machine.blank;
    machine.blank = profile;
    return before;
  }

  public int profileOf(int key) throws IndexOutOfBoundsException {
    needKey(key);
    return keys[key].profile;
  }

  public int setWard(int door, int ward)
      throws IndexOutOfBoundsException, IllegalArgumentException, UnsupportedOperationException {
    needDoor(door);
    if (!isBetween(ward, 0, LAST_PROFILE)) {
      throw new IllegalArgumentException("there is no such ward");
    }
    if (!doAllFit(doors[door].wished, ward)) {
      throw new UnsupportedOperationException("a wished key would not fit");
    }
    int before = doors[door].ward;
    doors[door].ward = ward;
    return before;
  }

  public boolean setThin(boolean are) {
    boolean before = thinAreFine;
    thinAreFine = are;
    return before;
  }

  public int thin(int door) throws IndexOutOfBoundsException {
    needDoor(door);
    return countThin(pinsOf(doors[door].wished));
  }

  public int pinsNeeded() {
    int sum = 0;
    for (int i = 0; i < doorCount; i++) {
      sum += pinsNeededFor(pinsOf(doors[i].wished));
    }
    return sum;
  }

  public int both(int first, int step, int depths, int apart) throws IllegalArgumentException {
    boolean isFine =
        isBetween(first, 0, machine.depths - 1)
            && isBetween(step, 1, 3)
            && isBetween(depths, 1, 6)
            && isBetween(apart, 0, 5);
    if (!isFine) {
      throw new IllegalArgumentException("no such depth, or a number is out of range");
    }
    return machine.countWithin(
        machine.depthsOfOther(first, step, depths), Math.min(machine.apart, step * apart));
  }

  // ---- progressions, rules and blocks

  public int below(int master, int held)
      throws IndexOutOfBoundsException, IllegalArgumentException {
    needKey(master);
    needHeld(held);
    return machine.countWithin(depthsBelow(master, held), machine.apart);
  }

  public int belowAt(int master, int held, int number, int chamber)
      throws IndexOutOfBoundsException, IllegalArgumentException, NoSuchElementException {
    needKey(master);
    needChamber(chamber);
    needHeld(held);
    long cuts = cutsBelow(master, held, number);
    needFound(cuts);
    return depthIn(cuts, chamber);
  }

  public int cutBelow(int master, int held, int number, int door)
      throws IndexOutOfBoundsException,
          IllegalArgumentException,
          NoSuchElementException,
          UnsupportedOperationException,
          IllegalStateException {
    needKey(master);
    needDoor(door);
    needHeld(held);
    long cuts = cutsBelow(master, held, number);
    needFound(cuts);
    boolean canBeMade =
        !isThere(cuts)
            && canBeWished(doors[door], master)
            && fits(machine.blank, doors[door].ward);
    if (!canBeMade) {
      throw new UnsupportedOperationException("the key is there, or one cannot be wished");
    }
    needRoomForKey();
    doors[door].wished = with(doors[door].wished, master, true);
    return makeWishedKey(cuts, 1 << door);
  }

  public int addRule(int keys, int doors, boolean is)
      throws IllegalArgumentException, IllegalStateException {
    if (!isBetween(keys, 1, (1 << MOST_KEYS) - 1) || !isBetween(doors, 1, (1 << MOST_DOORS) - 1)) {
      throw new IllegalArgumentException("a number of the rule is out of range");
    }
    if (ruleCount >= MOST_RULES) {
      throw new IllegalStateException("there are 12 rules");
    }
    Rule rule = rules[ruleCount];
    rule.keys = keys;
    rule.doors = doors;
    rule.is = is;
    ruleCount++;
    return ruleCount;
  }

  public int applyRules() {
    int changed = 0;
    for (int door = 0; door < doorCount; door++) {
      for (int key = 0; key < keyCount; key++) {
        if (applyTo(door, key)) {
          changed++;
        }
      }
    }
    return changed;
  }

  public int keepBlock()
      throws IllegalArgumentException, UnsupportedOperationException, IllegalStateException {
    if (machine.toldCount == 0) {
      throw new IllegalArgumentException("no depths are told");
    }
    if (meetsBlock(machine.told)) {
      throw new UnsupportedOperationException("one begins with another block");
    }
    if (blockCount >= MOST_BLOCKS) {
      throw new IllegalStateException("there are 4 blocks");
    }
    int block = blockCount;
    blocks[block] = machine.told;
    blockCount = block + 1;
    machine.dropTold();
    return block;
  }

  public int findIn(int block, int doors)
      throws IndexOutOfBoundsException,
          IllegalArgumentException,
          NoSuchElementException,
          IllegalStateException {
    if (!isBetween(block, 0, blockCount - 1)) {
      throw new IndexOutOfBoundsException("there is no such block");
    }
    needDoors(doors);
    long cuts = searchCuts(doors, NONE, block);
    needFound(cuts);
    needRoomForKey();
    return makeWishedKey(cuts, doors);
  }

  // ---- building and control keys, plans

  public int setBuilding(int door, int key)
      throws IndexOutOfBoundsException, UnsupportedOperationException {
    needDoor(door);
    needKey(key);
    if (keys[key].isLost || has(doors[door].wished, key)) {
      throw new UnsupportedOperationException("the key is lost, or wished for the door");
    }
    int before = doors[door].building;
    doors[door].building = key;
    return before;
  }

  public boolean use(int door, int key) throws IndexOutOfBoundsException {
    needDoor(door);
    needKey(key);
    boolean isOpened = isOpenedBy(doors[door], pinsOf(doors[door].wished), key);
    if (has(doors[door].wished, key)) {
      doors[door].building = NONE;
    }
    return isOpened;
  }

  public int setControl(int key) throws IndexOutOfBoundsException, UnsupportedOperationException {
    needKey(key);
    if (keys[key].isLost) {
      throw new UnsupportedOperationException("the key is lost");
    }
    int before = control;
    control = key;
    return before;
  }

  public int exchange(int door, int other, int key)
      throws IndexOutOfBoundsException, IllegalArgumentException, UnsupportedOperationException {
    needDoor(door);
    needDoor(other);
    needKey(key);
    if (door == other) {
      throw new IllegalArgumentException("both doors are the same");
    }
    if (key != control || keys[key].isLost) {
      throw new UnsupportedOperationException("it is not the control key, or lost");
    }
    Door core = doors[door];
    doors[door] = doors[other];
    doors[other] = core;
    return Integer.bitCount(doors[door].wished);
  }

  public int planDays(int limit) throws IllegalArgumentException {
    needLimit(limit);
    return daysFor(limit, countUnsafe());
  }

  public int planAt(int limit, int day, int place)
      throws IllegalArgumentException, NoSuchElementException {
    needLimit(limit);
    int unsafe = countUnsafe();
    if (!isBetween(day, 0, daysFor(limit, unsafe) - 1) || !isBetween(place, 0, limit - 1)) {
      throw new NoSuchElementException("there is no such day or place");
    }
    int door = doorAtRank(day * limit + place);
    if (door == NONE) {
      throw new NoSuchElementException("there is no such place on the last day");
    }
    return door;
  }

  // ---- rings, deputies and guards

  public int ring(int key, int other)
      throws IndexOutOfBoundsException, IllegalArgumentException, UnsupportedOperationException {
    needKey(key);
    needKey(other);
    if (key == other) {
      throw new IllegalArgumentException("both keys are the same");
    }
    int all = keys[key].ring | keys[other].ring;
    if (isOneGone(all)) {
      throw new UnsupportedOperationException("a key is lent or lost");
    }
    for (int i = 0; i < keyCount; i++) {
      if (has(all, i)) {
        keys[i].ring = all;
      }
    }
    return Integer.bitCount(all);
  }

  public int setDeputy(int person, int deputy)
      throws IndexOutOfBoundsException, IllegalArgumentException {
    needOtherPerson(person, deputy);
    int before = persons[person].deputy;
    persons[person].deputy = deputy;
    return before;
  }

  public boolean setAway(int person, boolean is) throws IndexOutOfBoundsException {
    needPerson(person);
    boolean before = persons[person].isAway;
    persons[person].isAway = is;
    return before;
  }

  public int setGuard(int person, int guard)
      throws IndexOutOfBoundsException, IllegalArgumentException {
    needOtherPerson(person, guard);
    int before = persons[person].guard;
    persons[person].guard = guard;
    return before;
  }

  // ---- persons and lending

  public int addPerson() throws IllegalStateException {
    if (personCount >= MOST_PERSONS) {
      throw new IllegalStateException("there are 8 persons");
    }
    int person = personCount;
    personCount = person + 1;
    return person;
  }

  public int lend(int key, int person, int hours)
      throws IndexOutOfBoundsException, IllegalArgumentException, UnsupportedOperationException {
    needKey(key);
    needPerson(person);
    if (!isBetween(hours, 1, 200)) {
      throw new IllegalArgumentException("the hours are out of range");
    }
    int taker = takerFor(person);
    if (keys[key].isLost || isRingLent(keys[key].ring) || taker == NONE) {
      throw new UnsupportedOperationException("the key is lent or lost, or nobody can take it");
    }
    int due = hour + hours;
    giveRing(keys[key].ring, taker, due);
    return due;
  }

  public int bring(int key) throws IndexOutOfBoundsException, UnsupportedOperationException {
    needKey(key);
    if (!keys[key].isLent() || keys[key].isLost) {
      throw new UnsupportedOperationException("the key is not lent, or lost");
    }
    int hoursLate = Math.max(0, hour - keys[key].due);
    giveRing(keys[key].ring, NONE, 0);
    return hoursLate;
  }

  public int holder(int key) throws IndexOutOfBoundsException, NoSuchElementException {
    needKey(key);
    if (!keys[key].isLent()) {
      throw new NoSuchElementException("the key is not lent");
    }
    return keys[key].holder;
  }

  public int late() {
    int count = 0;
    for (int i = 0; i < keyCount; i++) {
      if (keys[i].isLent() && !keys[i].isLost && hour > keys[i].due) {
        count++;
      }
    }
    return count;
  }

  public int pass(int hours) throws IllegalArgumentException {
    if (!isBetween(hours, 1, 500)) {
      throw new IllegalArgumentException("the hours are out of range");
    }
    hour += hours;
    return hour;
  }

  // ---- gates and cards

  public int addGate(int from, int to) throws IllegalArgumentException, IllegalStateException {
    if (!isBetween(from, 0, LAST_ZONE) || !isBetween(to, 0, LAST_ZONE) || from == to) {
      throw new IllegalArgumentException("there is no such zone, or both are the same");
    }
    if (gateCount >= MOST_GATES) {
      throw new IllegalStateException("there are 8 gates");
    }
    int gate = gateCount;
    gates[gate].from = from;
    gates[gate].to = to;
    gateCount = gate + 1;
    return gate;
  }

  public int lockAgainst(int gate, int other)
      throws IndexOutOfBoundsException, IllegalArgumentException {
    needGate(gate);
    needGate(other);
    if (gate == other) {
      throw new IllegalArgumentException("both gates are the same");
    }
    gates[gate].against = with(gates[gate].against, other, true);
    gates[other].against = with(gates[other].against, gate, true);
    return Integer.bitCount(gates[gate].against);
  }

  public int addCard(int person) throws IndexOutOfBoundsException, IllegalStateException {
    needPerson(person);
    if (cardCount >= MOST_CARDS) {
      throw new IllegalStateException("there are 12 cards");
    }
    int card = cardCount;
    cards[card].person = person;
    cards[card].goodUpTo = hour;
    cardCount = card + 1;
    return card;
  }

  public int allow(int card, int gate, boolean is) throws IndexOutOfBoundsException {
    needCard(card);
    needGate(gate);
    cards[card].rightsInTable = with(cards[card].rightsInTable, gate, is);
    return Integer.bitCount(cards[card].rightsInTable);
  }

  public int bar(int card, boolean is) throws IndexOutOfBoundsException {
    needCard(card);
    barredCards = with(barredCards, card, is);
    return Integer.bitCount(barredCards);
  }

  public int load(int card) throws IndexOutOfBoundsException, UnsupportedOperationException {
    needCard(card);
    if (has(barredCards, card)) {
      throw new UnsupportedOperationException("the card is barred");
    }
    cards[card].rights = cards[card].rightsInTable;
    cards[card].barred = barredCards;
    cards[card].goodUpTo = hour + HOURS_LOADED;
    return cards[card].goodUpTo;
  }

  public char tryCard(int gate, int card) throws IndexOutOfBoundsException {
    needGate(gate);
    needCard(card);
    gates[gate].barred |= cards[card].barred;
    char answer = judge(gate, card);
    if (answer == '.') {
      letThrough(gates[gate], cards[card].person);
    }
    return answer;
  }

  public int goOut(int gate, int person)
      throws IndexOutOfBoundsException, UnsupportedOperationException {
    needGate(gate);
    needPerson(person);
    if (gates[gate].to != OUTSIDE || persons[person].zone != gates[gate].from) {
      throw new UnsupportedOperationException("no way out, or the person is elsewhere");
    }
    letThrough(gates[gate], person);
    return Integer.bitCount(openGates());
  }

  public boolean shut(int gate) throws IndexOutOfBoundsException {
    needGate(gate);
    boolean wasOpen = gates[gate].isOpen;
    gates[gate].isOpen = false;
    return wasOpen;
  }

  public int zoneOf(int person) throws IndexOutOfBoundsException {
    needPerson(person);
    return persons[person].zone;
  }

  public int barredAt(int gate) throws IndexOutOfBoundsException {
    needGate(gate);
    return Integer.bitCount(gates[gate].barred);
  }

  // ---- figures

  public long checksum() {
    long sum = 0;
    for (int i = 0; i < doorCount; i++) {
      sum = 31 * sum + countAdmitted(doors[i]);
    }
    return sum;
  }

  public float cleanShare() throws ArithmeticException {
    if (doorCount == 0) {
      throw new ArithmeticException("there are no doors");
    }
    int clean = 0;
    for (int i = 0; i < doorCount; i++) {
      if (countStrays(doors[i]) == 0) {
        clean++;
      }
    }
    return (float) clean / (float) doorCount;
  }

  public double meanWished() throws ArithmeticException {
    if (doorCount == 0) {
      throw new ArithmeticException("there are no doors");
    }
    int sum = 0;
    for (int i = 0; i < doorCount; i++) {
      sum += Integer.bitCount(doors[i].wished);
    }
    return (double) sum / (double) doorCount;
  }

  public boolean isSound() {
    return doWishedOpen() && doCountsAgree() && couldAllBeCut();
  }

  // ---- what the calls need, or else throw

  private void needKey(int key) {
    if (key < 0 || key >= keyCount) {
      throw new IndexOutOfBoundsException("there is no such key");
    }
  }

  private void needChamber(int chamber) {
    if (chamber < 0 || chamber >= machine.chambers) {
      throw new IndexOutOfBoundsException("there is no such chamber");
    }
  }

  private void needDoor(int door) {
    if (door < 0 || door >= doorCount) {
      throw new IndexOutOfBoundsException("there is no such door");
    }
  }

  private void needPerson(int person) {
    if (person < 0 || person >= personCount) {
      throw new IndexOutOfBoundsException("there is no such person");
    }
  }

  private void needOtherPerson(int person, int other) {
    needPerson(person);
    if (other != NONE) {
      needPerson(other);
    }
    if (person == other) {
      throw new IllegalArgumentException("both persons are the same");
    }
  }

  private void needGate(int gate) {
    if (gate < 0 || gate >= gateCount) {
      throw new IndexOutOfBoundsException("there is no such gate");
    }
  }

  private void needCard(int card) {
    if (card < 0 || card >= cardCount) {
      throw new IndexOutOfBoundsException("there is no such card");
    }
  }

  private void needDoors(int set) {
    if (!isBetween(set, 1, (1 << doorCount) - 1)) {
      throw new IllegalArgumentException("there are no such doors");
    }
  }

  private void needHeld(int held) {
    if (!isBetween(held, 0, (1 << machine.chambers) - 1)) {
      throw new IllegalArgumentException("there are no such chambers");
    }
  }

  private void needLimit(int limit) {
    if (!isBetween(limit, 1, MOST_DOORS)) {
      throw new IllegalArgumentException("the limit is out of range");
    }
  }

  private void needFound(long cuts) {
    if (cuts == NO_CUTS) {
      throw new NoSuchElementException("there is no such key");
    }
  }

  private void needRoomForKey() {
    if (keyCount >= MOST_KEYS) {
      throw new IllegalStateException("there are 16 keys");
    }
  }

  // ---- keys and wishes

  private boolean isThere(long cuts) {
    for (int i = 0; i < keyCount; i++) {
      if (keys[i].cuts == cuts && keys[i].profile == machine.blank) {
        return true;
      }
    }
    return false;
  }

  /** The callers have looked whether there is room. */
  private int makeKey(long cuts) {
    int number = keyCount;
    keys[number].cuts = cuts;
    keys[number].profile = machine.blank;
    keys[number].ring = 1 << number;
    keyCount = number + 1;
    return number;
  }

  private int makeWishedKey(long cuts, int doorSet) {
    int number = makeKey(cuts);
    setWishes(doorSet, number, true);
    return number;
  }

  private void setWishes(int doorSet, int key, boolean is) {
    for (int i = 0; i < doorCount; i++) {
      if (has(doorSet, i)) {
        doors[i].wished = with(doors[i].wished, key, is);
      }
    }
  }

  private boolean canBeWished(Door door, int key) {
    return has(door.wished, key) || (!keys[key].isLost && fits(keys[key].profile, door.ward));
  }

  private int doorsWishing(int key) {
    int set = 0;
    for (int i = 0; i < doorCount; i++) {
      set = with(set, i, has(doors[i].wished, key));
    }
    return set;
  }

  private boolean doAllFit(int keySet, int ward) {
    for (int i = 0; i < keyCount; i++) {
      if (has(keySet, i) && !fits(keys[i].profile, ward)) {
        return false;
      }
    }
    return true;
  }

  // ---- pins and what they let in

  private long pinsOf(int wished) {
    long pins = 0;
    for (int i = 0; i < keyCount; i++) {
      if (has(wished, i)) {
        pins |= keys[i].cuts;
      }
    }
    return pins;
  }

  /** The pins are those of the door; they come along, as many keys are asked for one door. */
  private boolean isOpenedBy(Door door, long pins, int key) {
    return door.building == key || isOpenedByPins(door, pins, key);
  }

  private boolean isOpenedByPins(Door door, long pins, int key) {
    return fits(keys[key].profile, door.ward) && isLetIn(keys[key].cuts, pins);
  }

  private int countStrays(Door door) {
    long pins = pinsOf(door.wished);
    int count = 0;
    for (int i = 0; i < keyCount; i++) {
      if (!has(door.wished, i) && isOpenedByPins(door, pins, i)) {
        count++;
      }
    }
    return count;
  }

  private int countAdmitted(Door door) {
    if (!fits(machine.blank, door.ward)) {
      return 0;
    }
    return machine.countWithin(pinsOf(door.wished), machine.apart);
  }

  private int countThin(long pins) {
    int count = 0;
    for (int i = 0; i < machine.chambers; i++) {
      if (bitsIn(pins & (pins >>> 1), i) != 0) {
        count++;
      }
    }
    return count;
  }

  private int pinsNeededFor(long pins) {
    int sum = 0;
    for (int i = 0; i < machine.chambers; i++) {
      int letIn = Long.bitCount(bitsIn(pins, i));
      sum += letIn == 0 ? 0 : letIn + 1;
    }
    return sum;
  }

  // ---- searching

  /** The first key that can be found, or no cuts; no key, or one, is wished no more in this. */
  private long searchCuts(int doorSet, int replaced, int block) {
    search.begin(machine, block == NONE ? NO_CUTS : blocks[block]);
    for (int i = 0; i < keyCount; i++) {
      if (keys[i].profile == machine.blank) {
        search.ruleOut(keys[i].cuts);
      }
    }
    for (int i = 0; i < blockCount; i++) {
      if (i != block) {
        search.ruleOut(blocks[i]);
      }
    }
    for (int i = 0; i < doorCount; i++) {
      int wished = replaced == NONE ? doors[i].wished : with(doors[i].wished, replaced, false);
      limitSearch(doors[i].ward, wished, has(doorSet, i));
    }
    return search.first();
  }

  private void limitSearch(int ward, int wished, boolean isFor) {
    long pins = pinsOf(wished);
    boolean fitsHere = fits(machine.blank, ward);
    for (int i = 0; i < keyCount; i++) {
      if (!has(wished, i) && fits(keys[i].profile, ward)) {
        limitByStray(keys[i].cuts & ~pins, isFor);
      }
    }
    if (isFor && !fitsHere) {
      search.ruleOutAll();
    }
    if (!isFor && fitsHere) {
      search.keepOut(pins);
    }
    if (!thinAreFine) {
      limitByThin(pins, isFor);
    }
  }

  /** A key that is not wished becomes a stray by a new key that brings all depths it lacks. */
  private void limitByStray(long lacking, boolean isFor) {
    if (isFor) {
      search.ruleOut(lacking);
    } else if (lacking == NO_CUTS) {
      search.ruleOutAll();
    }
  }

  private void limitByThin(long pins, boolean isFor) {
    if (countThin(pins) > 0) {
      search.ruleOutAll();
    }
    if (isFor) {
      search.forbid((pins << 1) | (pins >>> 1));
    }
  }

  // ---- progressions, rules and blocks

  /** The depths that keys below the master may have; none if all chambers are held. */
  private long depthsBelow(int master, int held) {
    if (held == (1 << machine.chambers) - 1) {
      return NO_CUTS;
    }
    long depths = 0;
    for (int i = 0; i < machine.chambers; i++) {
      int depth = depthIn(keys[master].cuts, i);
      depths |= has(held, i) ? bit(i, depth) : machine.othersLike(i, depth);
    }
    return depths;
  }

  private long cutsBelow(int master, int held, int number) {
    long depths = depthsBelow(master, held);
    int count = machine.countWithin(depths, machine.apart);
    return isBetween(number, 0, count - 1) ? machine.countedAt(number) : NO_CUTS;
  }

  private boolean applyTo(int door, int key) {
    int last = lastRuleFor(door, key);
    if (last == NONE) {
      return false;
    }
    boolean is = rules[last].is;
    if (is == has(doors[door].wished, key) || (is && !canBeWished(doors[door], key))) {
      return false;
    }
    doors[door].wished = with(doors[door].wished, key, is);
    return true;
  }

  private int lastRuleFor(int door, int key) {
    for (int i = ruleCount - 1; i >= 0; i--) {
      if (has(rules[i].doors, door) && has(rules[i].keys, key)) {
        return i;
      }
    }
    return NONE;
  }

  private boolean meetsBlock(long begin) {
    for (int i = 0; i < blockCount; i++) {
      if ((begin & ~blocks[i]) == 0 || (blocks[i] & ~begin) == 0) {
        return true;
      }
    }
    return false;
  }

  // ---- lost keys and plans

  private int countOpened(int key) {
    int count = 0;
    for (int i = 0; i < doorCount; i++) {
      if (isOpenedBy(doors[i], pinsOf(doors[i].wished), key)) {
        count++;
      }
    }
    return count;
  }

  private int countLostAt(Door door) {
    long pins = pinsOf(door.wished);
    int count = 0;
    for (int i = 0; i < keyCount; i++) {
      if (keys[i].isLost && isOpenedBy(door, pins, i)) {
        count++;
      }
    }
    return count;
  }

  private int countUnsafe() {
    int count = 0;
    for (int i = 0; i < doorCount; i++) {
      if (countLostAt(doors[i]) > 0) {
        count++;
      }
    }
    return count;
  }

  private static int daysFor(int limit, int unsafe) {
    return limit > 0 ? (unsafe + limit - 1) / limit : 0;
  }

  private int doorAtRank(int rank) {
    for (int i = 0; i < doorCount; i++) {
      if (countLostAt(doors[i]) > 0 && rankInPlan(i) == rank) {
        return i;
      }
    }
    return NONE;
  }

  private int rankInPlan(int door) {
    int lost = countLostAt(doors[door]);
    int rank = 0;
    for (int i = 0; i < doorCount; i++) {
      int lostThere = countLostAt(doors[i]);
      if (lostThere > lost || (lostThere == lost && i < door)) {
        rank++;
      }
    }
    return rank;
  }

  // ---- rings and lending

  private boolean isOneGone(int ring) {
    for (int i = 0; i < keyCount; i++) {
      if (has(ring, i) && (keys[i].isLent() || keys[i].isLost)) {
        return true;
      }
    }
    return false;
  }

  private boolean isRingLent(int ring) {
    for (int i = 0; i < keyCount; i++) {
      if (has(ring, i) && keys[i].isLent() && !keys[i].isLost) {
        return true;
      }
    }
    return false;
  }

  private void giveRing(int ring, int person, int due) {
    for (int i = 0; i < keyCount; i++) {
      if (has(ring, i) && !keys[i].isLost) {
        keys[i].holder = person;
        keys[i].due = due;
      }
    }
  }

  /** Who comes again on the way is away as before, so as many steps as persons are enough. */
  private int takerFor(int person) {
    int taker = person;
    for (int i = 0; i < personCount; i++) {
      if (taker < 0 || taker >= personCount) {
        return NONE;
      }
      if (!persons[taker].isAway) {
        return taker;
      }
      taker = persons[taker].deputy;
    }
    return NONE;
  }

  // ---- gates and cards

  private char judge(int gate, int card) {
    Gate at = gates[gate];
    Card tried = cards[card];
    if (has(at.barred, card)) {
      return 'b';
    }
    if (hour > tried.goodUpTo) {
      return 'v';
    }
    if (!has(tried.rights, gate)) {
      return 'r';
    }
    if (persons[tried.person].zone != at.from) {
      return 'z';
    }
    if (lacksGuard(at, persons[tried.person].guard)) {
      return 'g';
    }
    return (at.against & openGates()) != 0 ? 'i' : '.';
  }

  private boolean lacksGuard(Gate gate, int guard) {
    if (guard < 0 || guard >= personCount) {
      return false;
    }
    int zone = persons[guard].zone;
    return zone != gate.from && zone != gate.to;
  }

  private void letThrough(Gate gate, int person) {
    gate.isOpen = true;
    persons[person].zone = gate.to;
  }

  private int openGates() {
    int set = 0;
    for (int i = 0; i < gateCount; i++) {
      set = with(set, i, gates[i].isOpen);
    }
    return set;
  }

  // ---- soundness

  private boolean doWishedOpen() {
    for (int i = 0; i < doorCount; i++) {
      long pins = pinsOf(doors[i].wished);
      for (int k = 0; k < keyCount; k++) {
        if (has(doors[i].wished, k) && !isOpenedByPins(doors[i], pins, k)) {
          return false;
        }
      }
    }
    return true;
  }

  private boolean doCountsAgree() {
    if (machine.chambers > MOST_CHAMBERS_TRIED) {
      return true;
    }
    for (int i = 0; i < doorCount; i++) {
      boolean fitsHere = fits(machine.blank, doors[i].ward);
      int tried = fitsHere ? machine.countTriedWith(pinsOf(doors[i].wished)) : 0;
      if (tried != countAdmitted(doors[i])) {
        return false;
      }
    }
    return true;
  }

  private boolean couldAllBeCut() {
    for (int i = 0; i < keyCount; i++) {
      if (!machine.couldCut(keys[i].cuts)) {
        return false;
      }
    }
    return true;
  }

  // ---- sets, bits of depths and numbers

  private static boolean isBetween(int number, int least, int most) {
    return number >= least && number <= most;
  }

  private static boolean has(int set, int number) {
    return ((set >>> number) & 1) != 0;
  }

  private static int with(int set, int number, boolean is) {
    return is ? set | (1 << number) : set & ~(1 << number);
  }

  private static boolean fits(int profile, int ward) {
    return (profile & ward) == 0;
  }

  private static boolean isLetIn(long cuts, long pins) {
    return (cuts & ~pins) == 0;
  }

  private static long bit(int chamber, int depth) {
    return 1L << (BITS_A_CHAMBER * chamber + depth);
  }

  private static long bitsIn(long depths, int chamber) {
    return (depths >>> (BITS_A_CHAMBER * chamber)) & CHAMBER_BITS;
  }

  /** A key has one bit in each chamber, so those below it are as many as its depth. */
  private static int depthIn(long cuts, int chamber) {
    return Long.bitCount(bitsIn(cuts, chamber) - 1);
  }

  // ---- classes

  /** What cuts keys, with the blank that lies in it and the depths that are told. */
  private static final class Machine {
    final int[][] ways = new int[MOST_CHAMBERS][MOST_DEPTHS];
    int chambers = 5;
    int depths = 5;
    int apart = 3;
    int blank;
    long told;
    int toldCount;

    void setUp(int newChambers, int newDepths, int newApart) {
      chambers = newChambers;
      depths = newDepths;
      apart = newApart;
      dropTold();
    }

    boolean canFollowTold(int depth) {
      return toldCount == 0 || Math.abs(depth - depthIn(told, toldCount - 1)) <= apart;
    }

    int tell(int depth) {
      told |= bit(toldCount, depth);
      toldCount++;
      return toldCount;
    }

    int dropTold() {
      int before = toldCount;
      told = NO_CUTS;
      toldCount = 0;
      return before;
    }

    long allDepths() {
      long all = 0;
      for (int i = 0; i < chambers; i++) {
        for (int d = 0; d < depths; d++) {
          all |= bit(i, d);
        }
      }
      return all;
    }

    /** All depths in a chamber with the same rest modulo 2, but this one. */
    long othersLike(int chamber, int depth) {
      long others = 0;
      for (int d = depth & 1; d < depths; d += 2) {
        if (d != depth) {
          others |= bit(chamber, d);
        }
      }
      return others;
    }

    /** The depths of another machine, as far as they are depths of this one. */
    long depthsOfOther(int first, int step, int count) {
      long others = 0;
      for (int i = 0; i < chambers; i++) {
        for (int k = 0; k < count; k++) {
          if (first + k * step < depths) {
            others |= bit(i, first + k * step);
          }
        }
      }
      return others;
    }

    /** Leaves in the ways, for each depth of a chamber, how many keys go on from it. */
    int countWithin(long within, int limit) {
      for (int i = chambers - 1; i >= 0; i--) {
        for (int d = 0; d < depths; d++) {
          ways[i][d] = (within & bit(i, d)) == 0 ? 0 : waysOn(i, d, limit);
        }
      }
      int sum = 0;
      for (int d = 0; d < depths; d++) {
        sum += ways[0][d];
      }
      return sum;
    }

    private int waysOn(int chamber, int depth, int limit) {
      if (chamber >= chambers - 1) {
        return 1;
      }
      int sum = 0;
      for (int d = 0; d < depths; d++) {
        if (Math.abs(d - depth) <= limit) {
          sum += ways[chamber + 1][d];
        }
      }
      return sum;
    }

    /** Of the keys that were counted last, by this machine's own limit, the one of a number. */
    long countedAt(int number) {
      long cuts = NO_CUTS;
      int left = number;
      for (int i = 0; i < chambers; i++) {
        int d = 0;
        while (d < depths - 1 && left >= waysAfter(cuts, i, d)) {
          left -= waysAfter(cuts, i, d);
          d++;
        }
        cuts |= bit(i, d);
      }
      return cuts;
    }

    private int waysAfter(long cuts, int chamber, int depth) {
      boolean isFar = chamber > 0 && Math.abs(depth - depthIn(cuts, chamber - 1)) > apart;
      return isFar ? 0 : ways[chamber][depth];
    }

    int countTriedWith(long pins) {
      return countTried(0, 0, NO_CUTS, pins);
    }

    /** Makes each key that could be cut, without the ways, as it is there to check them. */
    private int countTried(int chamber, int before, long cuts, long pins) {
      if (chamber >= chambers) {
        return isLetIn(cuts, pins) ? 1 : 0;
      }
      int count = 0;
      for (int d = 0; d < depths; d++) {
        if (chamber == 0 || Math.abs(d - before) <= apart) {
          count += countTried(chamber + 1, d, cuts | bit(chamber, d), pins);
        }
      }
      return count;
    }

    boolean couldCut(long cuts) {
      for (int i = 0; i < chambers; i++) {
        if (Long.bitCount(bitsIn(cuts, i)) != 1 || depthIn(cuts, i) >= depths) {
          return false;
        }
        if (i > 0 && Math.abs(depthIn(cuts, i) - depthIn(cuts, i - 1)) > apart) {
          return false;
        }
      }
      return cuts >>> (BITS_A_CHAMBER * chambers) == 0;
    }
  }

  /** Looks for the first key that nothing rules out. */
  private static final class Search {
    final long[] ruledOut = new long[MOST_KEYS + MOST_BLOCKS + MOST_KEYS * MOST_DOORS];
    final long[] keptOut = new long[MOST_DOORS];
    int ruledOutCount;
    int keptOutCount;
    boolean isVain;
    int chambers;
    int depths;
    int apart;
    long allowed;

    void begin(Machine machine, long block) {
      ruledOutCount = 0;
      keptOutCount = 0;
      isVain = false;
      chambers = machine.chambers;
      depths = machine.depths;
      apart = machine.apart;
      allowed = machine.allDepths();
      for (int i = 0; i < chambers; i++) {
        if (bitsIn(block, i) != 0) {
          allowed &= block | ~(CHAMBER_BITS << (BITS_A_CHAMBER * i));
        }
      }
    }

    void ruleOutAll() {
      isVain = true;
    }

    /** No key that has all these depths; what a row rules out that is there is not kept again. */
    void ruleOut(long depthsTogether) {
      for (int i = 0; i < ruledOutCount; i++) {
        if ((ruledOut[i] & ~depthsTogether) == 0) {
          return;
        }
      }
      if (ruledOutCount < ruledOut.length) {
        ruledOut[ruledOutCount] = depthsTogether;
        ruledOutCount++;
      }
    }

    /** No key that these pins let in. */
    void keepOut(long pins) {
      if (keptOutCount < keptOut.length) {
        keptOut[keptOutCount] = pins;
        keptOutCount++;
      }
    }

    void forbid(long singleDepths) {
      allowed &= ~singleDepths;
    }

    long first() {
      return isVain ? NO_CUTS : firstFrom(0, 0, NO_CUTS);
    }

    /** The first key that begins with the cuts of the chambers before this one, or no cuts. */
    private long firstFrom(int chamber, int before, long cuts) {
      if (isRuledOut(chamber, cuts)) {
        return NO_CUTS;
      }
      if (chamber >= chambers) {
        return cuts;
      }
      for (int d = 0; d < depths; d++) {
        boolean isNear = chamber == 0 || Math.abs(d - before) <= apart;
        if (isNear && (allowed & bit(chamber, d)) != 0) {
          long found = firstFrom(chamber + 1, d, cuts | bit(chamber, d));
          if (found != NO_CUTS) {
            return found;
          }
        }
      }
      return NO_CUTS;
    }

    /** Whether all keys that begin so are, which saves going through them. */
    private boolean isRuledOut(int chamber, long cuts) {
      for (int i = 0; i < ruledOutCount; i++) {
        if ((ruledOut[i] & ~cuts) == 0) {
          return true;
        }
      }
      int bitsBefore = BITS_A_CHAMBER * chamber;
      long possible = cuts | ((allowed >>> bitsBefore) << bitsBefore);
      for (int i = 0; i < keptOutCount; i++) {
        if (isLetIn(possible, keptOut[i])) {
          return true;
        }
      }
      return false;
    }
  }

  private static final class Key {
    long cuts;
    int profile;
    boolean isLost;
    int ring;
    int holder = NONE;
    int due;

    boolean isLent() {
      return holder != NONE;
    }
  }

  private static final class Door {
    int ward;
    int wished;
    int building = NONE;
  }

  private static final class Rule {
    int keys;
    int doors;
    boolean is;
  }

  private static final class Person {
    boolean isAway;
    int deputy = NONE;
    int guard = NONE;
    int zone = OUTSIDE;
  }

  private static final class Gate {
    int from;
    int to;
    boolean isOpen;
    int against;
    int barred;
  }

  private static final class Card {
    int person;
    int rightsInTable;
    int rights;
    int barred;
    int goodUpTo;
  }
}
