/** The edges that the promises 59 to 62 name, and what holds at the last of 512 calls. */
public final class FiguresEdgesTest {
  public static void main(String[] args) {
    checksumEnds();
    cleanShareEnds();
    meanWishedEnds();
    isSoundEnds();
    lastCalls();
    Check.end();
  }

  private static void checksumEnds() {
    Check.is("59: no door", new KeyWard().checksum(), 0L);
    Check.is("59: ten doors without wishes", Check.made(Check::full).checksum(), 0L);
    KeyWard house = Check.made(x -> x.machine(3, 6, 5));
    Check.key(house, 0, 0, 0);
    long due = 0;
    for (int i = 0; i < 10; i++) {
      house.addDoor();
      house.wish(i, 0, true);
      due = 31 * due + 1;
      Check.is("59: doors up to " + i, house.checksum(), due);
    }
    house.setBuilding(9, Check.key(house, 5, 5, 5));
    Check.is("59: a building key opens it not by its pins", house.checksum(), due);
    house.setWard(9, 1);
    house.setBlank(1);
    Check.is("59: the blank does not fit the last door", house.checksum(), due - 1);
  }

  private static void cleanShareEnds() {
    Check.refuses("60: no doors", Check.ARITHMETIC, x -> {
      x.machine(3, 2, 1);
      Check.key(x, 0, 0, 0);
    }, KeyWard::cleanShare);
    for (int doors = 1; doors <= 10; doors++) {
      for (int unclean = 0; unclean <= doors; unclean++) {
        KeyWard house = Check.made(x -> x.machine(3, 2, 1));
        Check.doors(house, doors);
        Check.key(house, 0, 0, 0);
        Check.key(house, 0, 0, 1);
        Check.key(house, 0, 1, 0);
        Check.key(house, 0, 1, 1);
        for (int i = 0; i < unclean; i++) {
          house.wish(i, 0, true);
          house.wish(i, 3, true);
        }
        Check.is("60: " + unclean + " of " + doors + " have strays", house.cleanShare(),
            (float) (doors - unclean) / (float) doors);
      }
    }
  }

  private static void meanWishedEnds() {
    Check.refuses("61: no doors", Check.ARITHMETIC, x -> {
      x.machine(3, 2, 1);
      Check.key(x, 0, 0, 0);
    }, KeyWard::meanWished);
    KeyWard house = Check.made(Check::full);
    Check.is("61: none", house.meanWished(), 0.0);
    int sum = 0;
    for (int i = 0; i < 160; i++) {
      house.wish(i / 16, i % 16, true);
      sum++;
      Check.is("61: " + sum + " by ten", house.meanWished(), (double) sum / 10.0);
    }
    Check.is("61: all", house.meanWished(), 16.0);
    for (int doors = 1; doors <= 10; doors++) {
      KeyWard one = Check.made(x -> Check.smallKeys(x, 1));
      Check.doors(one, doors);
      one.wish(doors - 1, 0, true);
      Check.is("61: one by " + doors, one.meanWished(), 1.0 / (double) doors);
    }
  }

  private static void isSoundEnds() {
    for (int i = 0; i < 100; i++) {
      int chambers = 3 + i / 25;
      int depths = 2 + i / 5 % 5;
      int apart = 1 + i % 5;
      KeyWard house = new KeyWard();
      house.machine(chambers, depths, apart);
      Check.is("62: no key and no door", house.isSound(), true);
      Check.doors(house, 10);
      for (int k = 0; k < depths; k++) {
        for (int c = 0; c < chambers; c++) {
          house.cut(k);
        }
        house.addKey();
        house.wish(k, k, true);
        house.wish(9, k, true);
      }
      Check.is("62: all depths are let in", house.isSound(), true);
      house.setWard(9, 1);
      house.setBlank(1);
      house.lose(0);
      house.setBuilding(8, 1);
      Check.is("62: the blank does not fit", house.isSound(), true);
    }
    KeyWard full = Check.made(Check::full);
    for (int i = 0; i < 160; i++) {
      full.wish(i / 16, i % 16, true);
    }
    Check.is("62: all wishes", full.isSound(), true);
  }

  /** Calls that throw are calls, too. */
  private static void lastCalls() {
    KeyWard house = new KeyWard();
    Check.doors(house, 10);
    int key = Check.key(house, 0, 0, 0, 0, 0);
    int card = house.addPerson() + house.addCard(0) + house.addGate(0, 1);
    for (int i = 19; i < 505; i++) {
      house.pass(500);
    }
    Check.is("call 505 to 506", house.pass(500) + house.lend(key, 0, 200), 487 * 500 + 487 * 500 + 200);
    Check.is("call 507", house.load(card), 487 * 500 + 168);
    Check.is("call 508", house.pass(500), 488 * 500);
    Check.is("call 509", house.bring(key), 300);
    Check.is("call 510", house.find(1023), 1);
    Check.is("call 511, one key for each of ten doors", house.checksum(), (819628286980801L - 1L) / 30L);
    Check.is("call 512", house.isSound(), true);
  }
}
