import java.util.ArrayList;
import java.util.Arrays;
import java.util.List;
import java.util.NoSuchElementException;
import java.util.TreeSet;

/**
 * The document once more, in the plainest form: keys as rows of depths, wishes as sets of numbers,
 * and every question about keys that could be cut answered by trying all of them. It shares no line
 * with the class under test, so that ModelTest can hold the two against each other.
 */
public final class PlainHouse {
  private static final class Key {
    int[] depths;
    int profile;
    boolean lost;
    int holder = -1;
    int until;
    TreeSet<Integer> ring = new TreeSet<>();
  }

  private static final class Core {
    TreeSet<Integer> wished = new TreeSet<>();
    int ward;
    int building = -1;
  }

  private record Rule(int keys, int doors, boolean is) {}

  private static final class Person {
    int deputy = -1;
    int guard = -1;
    boolean away;
    int zone;
  }

  private static final class Gate {
    int from;
    int to;
    boolean open;
    TreeSet<Integer> against = new TreeSet<>();
    TreeSet<Integer> barred = new TreeSet<>();
  }

  private static final class Card {
    int person;
    int good;
    TreeSet<Integer> table = new TreeSet<>();
    TreeSet<Integer> rights = new TreeSet<>();
    TreeSet<Integer> list = new TreeSet<>();
  }

  private int chambers = 5;
  private int depths = 5;
  private int apart = 3;
  private int blank;
  private boolean thinFine = true;
  private int control = -1;
  private int hour;
  private final List<Integer> told = new ArrayList<>();
  private final List<Key> keys = new ArrayList<>();
  private final List<Core> doors = new ArrayList<>();
  private final List<Rule> rules = new ArrayList<>();
  private final List<List<Integer>> blocks = new ArrayList<>();
  private final List<Person> persons = new ArrayList<>();
  private final List<Gate> gates = new ArrayList<>();
  private final List<Card> cards = new ArrayList<>();
  private final TreeSet<Integer> officeList = new TreeSet<>();

  // ---- how many there are, for whoever makes up calls

  int keyCount() {
    return keys.size();
  }

  int doorCount() {
    return doors.size();
  }

  int personCount() {
    return persons.size();
  }

  int gateCount() {
    return gates.size();
  }

  int cardCount() {
    return cards.size();
  }

  int blockCount() {
    return blocks.size();
  }

  // ---- keys

  public int machine(int newChambers, int newDepths, int newApart) {
    illegalIf(newChambers < 3 || newChambers > 6);
    illegalIf(newDepths < 2 || newDepths > 6);
    illegalIf(newApart < 1 || newApart > 5);
    unsupportedIf(!keys.isEmpty() || !blocks.isEmpty());
    chambers = newChambers;
    depths = newDepths;
    apart = newApart;
    told.clear();
    return allKeys().size();
  }

  public int cut(int depth) {
    illegalIf(depth < 0 || depth >= depths);
    if (!told.isEmpty()) {
      illegalIf(Math.abs(told.get(told.size() - 1) - depth) > apart);
    }
    stateIf(told.size() == chambers);
    told.add(depth);
    return told.size();
  }

  public int forget() {
    int size = told.size();
    told.clear();
    return size;
  }

  public int addKey() {
    illegalIf(told.size() < chambers);
    int[] row = told.stream().mapToInt(i -> i).toArray();
    unsupportedIf(isThere(row));
    stateIf(keys.size() == 16);
    told.clear();
    return newKey(row);
  }

  public int depthOf(int key, int chamber) {
    indexIf(noKey(key) || noChamber(chamber));
    return keys.get(key).depths[chamber];
  }

  // ---- doors

  public int addDoor() {
    stateIf(doors.size() == 10);
    doors.add(new Core());
    return doors.size() - 1;
  }

  public int wish(int door, int key, boolean is) {
    indexIf(noDoor(door) || noKey(key));
    Core core = doors.get(door);
    unsupportedIf(is && !wishable(core, key));
    put(core.wished, key, is);
    return core.wished.size();
  }

  public boolean isWished(int door, int key) {
    indexIf(noDoor(door) || noKey(key));
    return doors.get(door).wished.contains(key);
  }

  public int pins(int door, int chamber) {
    indexIf(noDoor(door) || noChamber(chamber));
    return letIn(doors.get(door), chamber).size();
  }

  public boolean opens(int door, int key) {
    indexIf(noDoor(door) || noKey(key));
    return canOpen(doors.get(door), key);
  }

  public int strays(int door) {
    indexIf(noDoor(door));
    return strayCount(doors.get(door));
  }

  public int admits(int door) {
    indexIf(noDoor(door));
    Core core = doors.get(door);
    int count = 0;
    for (int[] row : allKeys()) {
      if ((blank & core.ward) == 0 && passes(core, row)) {
        count++;
      }
    }
    return count;
  }

  // ---- searching and losing

  public int find(int set) {
    illegalIf(set < 1 || set >= 1 << doors.size());
    return search(set, null);
  }

  public int lose(int key) {
    indexIf(noKey(key));
    unsupportedIf(keys.get(key).lost);
    keys.get(key).lost = true;
    int count = 0;
    for (Core core : doors) {
      count += canOpen(core, key) ? 1 : 0;
    }
    return count;
  }

  public int unsafe() {
    return unsafeDoors().size();
  }

  public int replace(int key) {
    indexIf(noKey(key));
    int set = 0;
    for (int i = 0; i < doors.size(); i++) {
      set |= doors.get(i).wished.contains(key) ? 1 << i : 0;
    }
    unsupportedIf(!keys.get(key).lost || set == 0);
    setWishes(set, key, false);
    try {
      return search(set, null);
    } catch (NoSuchElementException | IllegalStateException e) {
      setWishes(set, key, true);
      throw e;
    }
  }

  // ---- profiles and pins

  public int setBlank(int profile) {
    illegalIf(profile < 0 || profile > 7);
    int before = blank;
    blank = profile;
    return before;
  }

  public int profileOf(int key) {
    indexIf(noKey(key));
    return keys.get(key).profile;
  }

  public int setWard(int door, int ward) {
    indexIf(noDoor(door));
    illegalIf(ward < 0 || ward > 7);
    Core core = doors.get(door);
    for (int key : core.wished) {
      unsupportedIf((keys.get(key).profile & ward) != 0);
    }
    int before = core.ward;
    core.ward = ward;
    return before;
  }

  public boolean setThin(boolean are) {
    boolean before = thinFine;
    thinFine = are;
    return before;
  }

  public int thin(int door) {
    indexIf(noDoor(door));
    return thinCount(doors.get(door));
  }

  public int pinsNeeded() {
    int sum = 0;
    for (Core core : doors) {
      for (int c = 0; c < chambers; c++) {
        int size = letIn(core, c).size();
        sum += size > 0 ? size + 1 : 0;
      }
    }
    return sum;
  }

  public int both(int first, int step, int otherDepths, int otherApart) {
    illegalIf(first < 0 || first >= depths);
    illegalIf(step < 1 || step > 3);
    illegalIf(otherDepths < 1 || otherDepths > 6);
    illegalIf(otherApart < 0 || otherApart > 5);
    int count = 0;
    for (int[] row : allKeys()) {
      boolean can = true;
      int last = -1;
      for (int depth : row) {
        int own = -1;
        for (int k = 0; k < otherDepths; k++) {
          own = first + k * step == depth ? k : own;
        }
        can &= own >= 0 && (last < 0 || Math.abs(own - last) <= otherApart);
        last = own;
      }
      count += can ? 1 : 0;
    }
    return count;
  }

  // ---- progressions, rules and blocks

  public int below(int master, int held) {
    indexIf(noKey(master));
    illegalIf(held < 0 || held >= 1 << chambers);
    return keysBelow(master, held).size();
  }

  public int belowAt(int master, int held, int number, int chamber) {
    indexIf(noKey(master) || noChamber(chamber));
    illegalIf(held < 0 || held >= 1 << chambers);
    List<int[]> rows = keysBelow(master, held);
    missingIf(number < 0 || number >= rows.size());
    return rows.get(number)[chamber];
  }

  public int cutBelow(int master, int held, int number, int door) {
    indexIf(noKey(master) || noDoor(door));
    illegalIf(held < 0 || held >= 1 << chambers);
    List<int[]> rows = keysBelow(master, held);
    missingIf(number < 0 || number >= rows.size());
    Core core = doors.get(door);
    unsupportedIf(isThere(rows.get(number)));
    unsupportedIf(!wishable(core, master));
    unsupportedIf((blank & core.ward) != 0);
    stateIf(keys.size() == 16);
    int made = newKey(rows.get(number));
    core.wished.add(master);
    core.wished.add(made);
    return made;
  }

  public int addRule(int ruleKeys, int ruleDoors, boolean is) {
    illegalIf(ruleKeys < 1 || ruleKeys > 65535 || ruleDoors < 1 || ruleDoors > 1023);
    stateIf(rules.size() == 12);
    rules.add(new Rule(ruleKeys, ruleDoors, is));
    return rules.size();
  }

  public int applyRules() {
    boolean[][] told = new boolean[doors.size()][keys.size()];
    boolean[][] wanted = new boolean[doors.size()][keys.size()];
    for (Rule rule : rules) {
      for (int d = 0; d < doors.size(); d++) {
        for (int k = 0; k < keys.size(); k++) {
          if ((rule.doors >> d & 1) == 1 && (rule.keys >> k & 1) == 1) {
            told[d][k] = true;
            wanted[d][k] = rule.is;
          }
        }
      }
    }
    int changed = 0;
    for (int d = 0; d < doors.size(); d++) {
      for (int k = 0; k < keys.size(); k++) {
        Core core = doors.get(d);
        boolean other = told[d][k] && core.wished.contains(k) != wanted[d][k];
        if (other && (!wanted[d][k] || wishable(core, k))) {
          put(core.wished, k, wanted[d][k]);
          changed++;
        }
      }
    }
    return changed;
  }

  public int keepBlock() {
    illegalIf(told.isEmpty());
    for (List<Integer> block : blocks) {
      int shorter = Math.min(block.size(), told.size());
      unsupportedIf(block.subList(0, shorter).equals(told.subList(0, shorter)));
    }
    stateIf(blocks.size() == 4);
    blocks.add(new ArrayList<>(told));
    told.clear();
    return blocks.size() - 1;
  }

  public int findIn(int block, int set) {
    indexIf(block < 0 || block >= blocks.size());
    illegalIf(set < 1 || set >= 1 << doors.size());
    return search(set, blocks.get(block));
  }

  // ---- building and control keys, plans

  public int setBuilding(int door, int key) {
    indexIf(noDoor(door) || noKey(key));
    unsupportedIf(keys.get(key).lost || doors.get(door).wished.contains(key));
    int before = doors.get(door).building;
    doors.get(door).building = key;
    return before;
  }

  public boolean use(int door, int key) {
    indexIf(noDoor(door) || noKey(key));
    boolean can = canOpen(doors.get(door), key);
    if (doors.get(door).wished.contains(key)) {
      doors.get(door).building = -1;
    }
    return can;
  }

  public int setControl(int key) {
    indexIf(noKey(key));
    unsupportedIf(keys.get(key).lost);
    int before = control;
    control = key;
    return before;
  }

  public int exchange(int door, int other, int key) {
    indexIf(noDoor(door) || noDoor(other) || noKey(key));
    illegalIf(door == other);
    unsupportedIf(key != control || keys.get(key).lost);
    Core core = doors.get(door);
    doors.set(door, doors.get(other));
    doors.set(other, core);
    return doors.get(door).wished.size();
  }

  public int planDays(int limit) {
    illegalIf(limit < 1 || limit > 10);
    return plan(limit).size();
  }

  public int planAt(int limit, int day, int place) {
    illegalIf(limit < 1 || limit > 10);
    List<List<Integer>> days = plan(limit);
    missingIf(day < 0 || day >= days.size());
    missingIf(place < 0 || place >= days.get(day).size());
    return days.get(day).get(place);
  }

  // ---- rings, deputies and guards

  public int ring(int key, int other) {
    indexIf(noKey(key) || noKey(other));
    illegalIf(key == other);
    TreeSet<Integer> all = new TreeSet<>(keys.get(key).ring);
    all.addAll(keys.get(other).ring);
    for (int one : all) {
      unsupportedIf(keys.get(one).holder >= 0 || keys.get(one).lost);
    }
    for (int one : all) {
      keys.get(one).ring = all;
    }
    return all.size();
  }

  public int setDeputy(int person, int deputy) {
    indexIf(noPerson(person) || deputy != -1 && noPerson(deputy));
    illegalIf(person == deputy);
    int before = persons.get(person).deputy;
    persons.get(person).deputy = deputy;
    return before;
  }

  public boolean setAway(int person, boolean is) {
    indexIf(noPerson(person));
    boolean before = persons.get(person).away;
    persons.get(person).away = is;
    return before;
  }

  public int setGuard(int person, int guard) {
    indexIf(noPerson(person) || guard != -1 && noPerson(guard));
    illegalIf(person == guard);
    int before = persons.get(person).guard;
    persons.get(person).guard = guard;
    return before;
  }

  // ---- persons and lending

  public int addPerson() {
    stateIf(persons.size() == 8);
    persons.add(new Person());
    return persons.size() - 1;
  }

  public int lend(int key, int person, int hours) {
    indexIf(noKey(key) || noPerson(person));
    illegalIf(hours < 1 || hours > 200);
    unsupportedIf(keys.get(key).lost);
    for (int one : keys.get(key).ring) {
      unsupportedIf(keys.get(one).holder >= 0 && !keys.get(one).lost);
    }
    TreeSet<Integer> way = new TreeSet<>();
    int taker = person;
    while (persons.get(taker).away) {
      unsupportedIf(!way.add(taker));
      taker = persons.get(taker).deputy;
      unsupportedIf(taker == -1);
    }
    for (int one : keys.get(key).ring) {
      if (!keys.get(one).lost) {
        keys.get(one).holder = taker;
        keys.get(one).until = hour + hours;
      }
    }
    return hour + hours;
  }

  public int bring(int key) {
    indexIf(noKey(key));
    unsupportedIf(keys.get(key).holder < 0 || keys.get(key).lost);
    int over = hour - keys.get(key).until;
    for (int one : keys.get(key).ring) {
      if (!keys.get(one).lost) {
        keys.get(one).holder = -1;
      }
    }
    return over > 0 ? over : 0;
  }

  public int holder(int key) {
    indexIf(noKey(key));
    missingIf(keys.get(key).holder < 0);
    return keys.get(key).holder;
  }

  public int late() {
    int count = 0;
    for (Key key : keys) {
      count += !key.lost && key.holder >= 0 && key.until < hour ? 1 : 0;
    }
    return count;
  }

  public int pass(int hours) {
    illegalIf(hours < 1 || hours > 500);
    hour += hours;
    return hour;
  }

  // ---- gates and cards

  public int addGate(int from, int to) {
    illegalIf(from < 0 || from > 4 || to < 0 || to > 4 || from == to);
    stateIf(gates.size() == 8);
    Gate gate = new Gate();
    gate.from = from;
    gate.to = to;
    gates.add(gate);
    return gates.size() - 1;
  }

  public int lockAgainst(int gate, int other) {
    indexIf(noGate(gate) || noGate(other));
    illegalIf(gate == other);
    gates.get(gate).against.add(other);
    gates.get(other).against.add(gate);
    return gates.get(gate).against.size();
  }

  public int addCard(int person) {
    indexIf(noPerson(person));
    stateIf(cards.size() == 12);
    Card card = new Card();
    card.person = person;
    card.good = hour;
    cards.add(card);
    return cards.size() - 1;
  }

  public int allow(int card, int gate, boolean is) {
    indexIf(noCard(card) || noGate(gate));
    put(cards.get(card).table, gate, is);
    return cards.get(card).table.size();
  }

  public int bar(int card, boolean is) {
    indexIf(noCard(card));
    put(officeList, card, is);
    return officeList.size();
  }

  public int load(int card) {
    indexIf(noCard(card));
    unsupportedIf(officeList.contains(card));
    Card one = cards.get(card);
    one.rights = new TreeSet<>(one.table);
    one.list = new TreeSet<>(officeList);
    one.good = hour + 168;
    return one.good;
  }

  public char tryCard(int gate, int card) {
    indexIf(noGate(gate) || noCard(card));
    Gate at = gates.get(gate);
    Card one = cards.get(card);
    Person person = persons.get(one.person);
    at.barred.addAll(one.list);
    if (at.barred.contains(card)) {
      return 'b';
    }
    if (hour > one.good) {
      return 'v';
    }
    if (!one.rights.contains(gate)) {
      return 'r';
    }
    if (person.zone != at.from) {
      return 'z';
    }
    if (person.guard >= 0) {
      int zone = persons.get(person.guard).zone;
      if (zone != at.from && zone != at.to) {
        return 'g';
      }
    }
    for (int other : at.against) {
      if (gates.get(other).open) {
        return 'i';
      }
    }
    at.open = true;
    person.zone = at.to;
    return '.';
  }

  public int goOut(int gate, int person) {
    indexIf(noGate(gate) || noPerson(person));
    Gate at = gates.get(gate);
    unsupportedIf(at.to != 0 || persons.get(person).zone != at.from);
    at.open = true;
    persons.get(person).zone = 0;
    int count = 0;
    for (Gate one : gates) {
      count += one.open ? 1 : 0;
    }
    return count;
  }

  public boolean shut(int gate) {
    indexIf(noGate(gate));
    boolean was = gates.get(gate).open;
    gates.get(gate).open = false;
    return was;
  }

  public int zoneOf(int person) {
    indexIf(noPerson(person));
    return persons.get(person).zone;
  }

  public int barredAt(int gate) {
    indexIf(noGate(gate));
    return gates.get(gate).barred.size();
  }

  // ---- figures

  public long checksum() {
    long sum = 0;
    for (int i = 0; i < doors.size(); i++) {
      sum = sum * 31 + admits(i);
    }
    return sum;
  }

  public float cleanShare() {
    if (doors.isEmpty()) {
      throw new ArithmeticException();
    }
    int clean = 0;
    for (Core core : doors) {
      clean += strayCount(core) == 0 ? 1 : 0;
    }
    return (float) clean / (float) doors.size();
  }

  public double meanWished() {
    if (doors.isEmpty()) {
      throw new ArithmeticException();
    }
    int sum = 0;
    for (Core core : doors) {
      sum += core.wished.size();
    }
    return (double) sum / (double) doors.size();
  }

  public boolean isSound() {
    return true;
  }

  // ---- the words of the terms

  private List<int[]> allKeys() {
    List<int[]> rows = new ArrayList<>();
    int[] row = new int[chambers];
    while (true) {
      boolean can = true;
      for (int c = 1; c < chambers; c++) {
        can &= Math.abs(row[c] - row[c - 1]) <= apart;
      }
      if (can) {
        rows.add(row.clone());
      }
      int c = chambers - 1;
      while (c >= 0 && row[c] == depths - 1) {
        row[c] = 0;
        c--;
      }
      if (c < 0) {
        return rows;
      }
      row[c]++;
    }
  }

  private boolean isThere(int[] row) {
    for (Key key : keys) {
      if (key.profile == blank && Arrays.equals(key.depths, row)) {
        return true;
      }
    }
    return false;
  }

  private int newKey(int[] row) {
    Key key = new Key();
    key.depths = row.clone();
    key.profile = blank;
    key.ring.add(keys.size());
    keys.add(key);
    return keys.size() - 1;
  }

  private boolean wishable(Core core, int key) {
    if (core.wished.contains(key)) {
      return true;
    }
    return !keys.get(key).lost && (keys.get(key).profile & core.ward) == 0;
  }

  private void setWishes(int set, int key, boolean is) {
    for (int i = 0; i < doors.size(); i++) {
      if ((set >> i & 1) == 1) {
        put(doors.get(i).wished, key, is);
      }
    }
  }

  private TreeSet<Integer> letIn(Core core, int chamber) {
    TreeSet<Integer> set = new TreeSet<>();
    for (int key : core.wished) {
      set.add(keys.get(key).depths[chamber]);
    }
    return set;
  }

  private boolean passes(Core core, int[] row) {
    for (int c = 0; c < chambers; c++) {
      boolean in = false;
      for (int key : core.wished) {
        in |= keys.get(key).depths[c] == row[c];
      }
      if (!in) {
        return false;
      }
    }
    return true;
  }

  private boolean fitsAndPasses(Core core, Key key) {
    return (key.profile & core.ward) == 0 && passes(core, key.depths);
  }

  private boolean canOpen(Core core, int key) {
    return core.building == key || fitsAndPasses(core, keys.get(key));
  }

  private int strayCount(Core core) {
    int count = 0;
    for (int i = 0; i < keys.size(); i++) {
      count += !core.wished.contains(i) && fitsAndPasses(core, keys.get(i)) ? 1 : 0;
    }
    return count;
  }

  private int thinCount(Core core) {
    int count = 0;
    for (int c = 0; c < chambers; c++) {
      TreeSet<Integer> set = letIn(core, c);
      boolean thin = false;
      for (int depth : set) {
        thin |= set.contains(depth + 1);
      }
      count += thin ? 1 : 0;
    }
    return count;
  }

  /** Makes each key in turn, looks at the whole house with it, and takes it out again. */
  private int search(int set, List<Integer> toldBlock) {
    for (int i = 0; i < doors.size(); i++) {
      missingIf((set >> i & 1) == 1 && (doors.get(i).ward & blank) != 0);
    }
    for (int[] row : allKeys()) {
      if (isThere(row) || !isInRightBlock(row, toldBlock)) {
        continue;
      }
      int made = newKey(row);
      setWishes(set, made, true);
      boolean fine = isAllFine();
      setWishes(set, made, false);
      keys.remove(made);
      if (fine) {
        stateIf(keys.size() == 16);
        newKey(row);
        setWishes(set, made, true);
        return made;
      }
    }
    throw new NoSuchElementException();
  }

  private boolean isAllFine() {
    for (Core core : doors) {
      if (strayCount(core) > 0 || !thinFine && thinCount(core) > 0) {
        return false;
      }
    }
    return true;
  }

  private boolean isInRightBlock(int[] row, List<Integer> toldBlock) {
    if (toldBlock != null) {
      return begins(row, toldBlock);
    }
    for (List<Integer> block : blocks) {
      if (begins(row, block)) {
        return false;
      }
    }
    return true;
  }

  private static boolean begins(int[] row, List<Integer> block) {
    for (int c = 0; c < block.size(); c++) {
      if (row[c] != block.get(c)) {
        return false;
      }
    }
    return true;
  }

  private List<int[]> keysBelow(int master, int held) {
    List<int[]> rows = new ArrayList<>();
    if (held == (1 << chambers) - 1) {
      return rows;
    }
    int[] top = keys.get(master).depths;
    for (int[] row : allKeys()) {
      boolean can = true;
      for (int c = 0; c < chambers; c++) {
        boolean same = row[c] == top[c];
        boolean isHeld = (held >> c & 1) == 1;
        can &= isHeld ? same : !same && row[c] % 2 == top[c] % 2;
      }
      if (can) {
        rows.add(row);
      }
    }
    return rows;
  }

  private int lostAt(int door) {
    int count = 0;
    for (int i = 0; i < keys.size(); i++) {
      count += keys.get(i).lost && canOpen(doors.get(door), i) ? 1 : 0;
    }
    return count;
  }

  private List<Integer> unsafeDoors() {
    List<Integer> list = new ArrayList<>();
    for (int i = 0; i < doors.size(); i++) {
      if (lostAt(i) > 0) {
        list.add(i);
      }
    }
    return list;
  }

  private List<List<Integer>> plan(int limit) {
    List<Integer> order = unsafeDoors();
    order.sort((a, b) -> lostAt(a) != lostAt(b) ? lostAt(b) - lostAt(a) : a - b);
    List<List<Integer>> days = new ArrayList<>();
    for (int i = 0; i < order.size(); i += limit) {
      days.add(order.subList(i, Math.min(order.size(), i + limit)));
    }
    return days;
  }

  private static void put(TreeSet<Integer> set, int number, boolean is) {
    if (is) {
      set.add(number);
    } else {
      set.remove(number);
    }
  }

  // ---- what there is not

  private boolean noKey(int key) {
    return key < 0 || key >= keys.size();
  }

  private boolean noChamber(int chamber) {
    return chamber < 0 || chamber >= chambers;
  }

  private boolean noDoor(int door) {
    return door < 0 || door >= doors.size();
  }

  private boolean noPerson(int person) {
    return person < 0 || person >= persons.size();
  }

  private boolean noGate(int gate) {
    return gate < 0 || gate >= gates.size();
  }

  private boolean noCard(int card) {
    return card < 0 || card >= cards.size();
  }

  private static void illegalIf(boolean is) {
    if (is) {
      throw new IllegalArgumentException();
    }
  }

  private static void indexIf(boolean is) {
    if (is) {
      throw new IndexOutOfBoundsException();
    }
  }

  private static void unsupportedIf(boolean is) {
    if (is) {
      throw new UnsupportedOperationException();
    }
  }

  private static void missingIf(boolean is) {
    if (is) {
      throw new NoSuchElementException();
    }
  }

  private static void stateIf(boolean is) {
    if (is) {
      throw new IllegalStateException();
    }
  }
}
