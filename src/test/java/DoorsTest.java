/** The promises 7 to 13. */
public final class DoorsTest {
  public static void main(String[] args) {
    addsDoors();
    wishes();
    wishRefuses();
    tellsWishes();
    countsPins();
    opensDoors();
    countsStrays();
    admitsKeys();
    Check.end();
  }

  /** Three keys, of which 0 and 1 are wished for the door 0, and 1 for the door 1. */
  private static void three(KeyWard house) {
    house.machine(3, 4, 2);
    Check.doors(house, 3);
    Check.key(house, 0, 1, 2);
    Check.key(house, 2, 1, 0);
    Check.key(house, 0, 1, 0);
    house.wish(0, 0, true);
    house.wish(0, 1, true);
    house.wish(1, 1, true);
  }

  private static void addsDoors() {
    KeyWard house = new KeyWard();
    for (int i = 0; i < 10; i++) {
      Check.is("7: the number", house.addDoor(), i);
    }
    Check.is("7: no key is wished", house.pins(9, 0), 0);
    Check.is("7: the ward is 0", house.setWard(9, 0), 0);
    Check.refuses("7: an 11th", Check.STATE, x -> Check.doors(x, 10), KeyWard::addDoor);
  }

  private static void wishes() {
    KeyWard house = Check.made(DoorsTest::three);
    Check.is("8: one more", house.wish(0, 2, true), 3);
    Check.is("8: once more", house.wish(0, 2, true), 3);
    Check.is("8: no more", house.wish(0, 0, false), 2);
    Check.is("8: no more, and was not", house.wish(0, 0, false), 2);
    Check.is("8: other doors stay", house.wish(1, 1, true), 1);
    house.lose(1);
    Check.is("8: a lost key that is wished", house.wish(1, 1, true), 1);
    Check.is("8: a lost key is wished no more", house.wish(1, 1, false), 0);
    Check.is("8: a lost key that is not wished, no more", house.wish(1, 1, false), 0);
    house.setBlank(5);
    int key = Check.key(house, 3, 3, 3);
    house.setWard(2, 1);
    Check.is("8: one that does not fit, no more", house.wish(2, key, false), 0);
    house.setWard(2, 2);
    Check.is("8: one that fits", house.wish(2, key, true), 1);
  }

  private static void wishRefuses() {
    int[][] none = {{3, 0}, {-1, 0}, {0, 3}, {0, -1}};
    for (int[] row : none) {
      Check.refuses("8: no door or key", Check.INDEX, DoorsTest::three, x -> x.wish(row[0], row[1], true));
      Check.refuses("8: no door or key", Check.INDEX, DoorsTest::three, x -> x.wish(row[0], row[1], false));
    }
    Check.Setting lost = x -> {
      three(x);
      x.lose(2);
    };
    Check.refuses("8: a lost key", Check.UNSUPPORTED, lost, x -> x.wish(2, 2, true));
    Check.Setting thick = x -> {
      three(x);
      x.setBlank(6);
      Check.key(x, 0, 0, 0);
      x.setWard(2, 3);
    };
    Check.refuses("8: one that does not fit", Check.UNSUPPORTED, thick, x -> x.wish(2, 3, true));
  }

  private static void tellsWishes() {
    KeyWard house = Check.made(DoorsTest::three);
    Check.is("9: wished", house.isWished(0, 1), true);
    Check.is("9: not wished, but opening", house.isWished(0, 2), false);
    Check.is("9: wished for another door", house.isWished(1, 0), false);
    house.wish(0, 1, false);
    Check.is("9: no more", house.isWished(0, 1), false);
    int[][] none = {{3, 0}, {-1, 0}, {0, 3}, {0, -1}};
    for (int[] row : none) {
      Check.refuses("9: no door or key", Check.INDEX, DoorsTest::three, x -> x.isWished(row[0], row[1]));
    }
  }

  private static void countsPins() {
    KeyWard house = Check.made(DoorsTest::three);
    Check.is("10: two depths", house.pins(0, 0), 2);
    Check.is("10: the same depth", house.pins(0, 1), 1);
    Check.is("10: the last chamber", house.pins(0, 2), 2);
    Check.is("10: one key", house.pins(1, 0), 1);
    Check.is("10: no key", house.pins(2, 0), 0);
    house.wish(0, 0, false);
    Check.is("10: one wish less", house.pins(0, 0), 1);
    int[][] none = {{3, 0}, {-1, 0}, {0, 3}, {0, -1}};
    for (int[] row : none) {
      Check.refuses("10: no door or chamber", Check.INDEX, DoorsTest::three, x -> x.pins(row[0], row[1]));
    }
  }

  private static void opensDoors() {
    KeyWard house = Check.made(DoorsTest::three);
    Check.is("11: a wished one", house.opens(0, 0), true);
    Check.is("11: a stray", house.opens(0, 2), true);
    Check.is("11: one depth is not let in", house.opens(1, 2), false);
    Check.is("11: no key is wished", house.opens(2, 0), false);
    house.lose(1);
    Check.is("11: a lost one", house.opens(1, 1), true);
    house.setBlank(1);
    int thick = Check.key(house, 0, 1, 0);
    Check.is("11: let in, and fits", house.opens(0, thick), true);
    house.setWard(0, 1);
    Check.is("11: let in, and does not fit", house.opens(0, thick), false);
    Check.is("11: a thin one fits still", house.opens(0, 0), true);
    house.setBuilding(0, thick);
    Check.is("11: the building key, whatever the ward is", house.opens(0, thick), true);
    house.setBuilding(2, 0);
    Check.is("11: the building key, whatever is wished", house.opens(2, 0), true);
    Check.is("11: no other one", house.opens(2, 1), false);
    int[][] none = {{3, 0}, {-1, 0}, {0, 3}, {0, -1}};
    for (int[] row : none) {
      Check.refuses("11: no door or key", Check.INDEX, DoorsTest::three, x -> x.opens(row[0], row[1]));
    }
  }

  private static void countsStrays() {
    KeyWard house = Check.made(DoorsTest::three);
    Check.is("12: one stray", house.strays(0), 1);
    Check.is("12: none", house.strays(1), 0);
    Check.is("12: no key is wished", house.strays(2), 0);
    house.setBuilding(0, 2);
    Check.is("12: a stray that is the building key", house.strays(0), 1);
    house.setBuilding(1, 0);
    Check.is("12: a building key that is not let in", house.strays(1), 0);
    house.lose(2);
    Check.is("12: a lost stray", house.strays(0), 1);
    house.setBlank(1);
    Check.key(house, 2, 1, 2);
    Check.is("12: one more", house.strays(0), 2);
    house.setWard(0, 1);
    Check.is("12: it does not fit", house.strays(0), 1);
    house.setBuilding(0, 3);
    Check.is("12: a building key that does not fit", house.strays(0), 1);
    house.wish(0, 0, false);
    Check.is("12: one wish less", house.strays(0), 0);
    Check.refuses("12: door 3 of 3", Check.INDEX, DoorsTest::three, x -> x.strays(3));
    Check.refuses("12: door -1", Check.INDEX, DoorsTest::three, x -> x.strays(-1));
  }

  private static void admitsKeys() {
    KeyWard house = Check.made(DoorsTest::three);
    Check.is("13: 2 times 1 times 2", house.admits(0), 4);
    Check.is("13: one", house.admits(1), 1);
    Check.is("13: no key is wished", house.admits(2), 0);
    house.setBuilding(2, 0);
    Check.is("13: the building key opens it not by its pins", house.admits(2), 0);
    house.setWard(0, 2);
    Check.is("13: the blank fits", house.admits(0), 4);
    house.setBlank(3);
    Check.is("13: the blank does not fit", house.admits(0), 0);
    Check.is("13: it fits another door", house.admits(1), 1);
    KeyWard far = Check.made(x -> x.machine(3, 4, 2));
    far.addDoor();
    far.wish(0, Check.key(far, 0, 0, 0), true);
    far.wish(0, Check.key(far, 3, 3, 3), true);
    Check.is("13: depths that differ too much", far.admits(0), 2);
    Check.refuses("13: door 3 of 3", Check.INDEX, DoorsTest::three, x -> x.admits(3));
    Check.refuses("13: door -1", Check.INDEX, DoorsTest::three, x -> x.admits(-1));
  }
}
