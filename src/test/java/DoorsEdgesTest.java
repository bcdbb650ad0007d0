/** The edges that the promises 7 to 13, and the terms of doors, name. */
public final class DoorsEdgesTest {
  public static void main(String[] args) {
    addDoorEnds();
    wishEnds();
    wishRefused();
    wishesByProfile();
    isWishedEnds();
    pinsEnds();
    opensEnds();
    straysEnds();
    admitsEnds();
    Check.end();
  }

  private static void addDoorEnds() {
    KeyWard house = Check.made(x -> Check.doors(x, 9));
    Check.is("7: the 10th door", house.addDoor(), 9);
    Check.is("7: no key is wished for it", house.thin(9), 0);
    Check.refuses("7: an 11th", Check.STATE, Check::full, KeyWard::addDoor);
  }

  private static void wishEnds() {
    KeyWard house = Check.made(Check::full);
    Check.is("8: the last door, the last key", house.wish(9, 15, true), 1);
    Check.is("8: the last door, the first key", house.wish(9, 0, true), 2);
    Check.is("8: another door has none", house.wish(0, 15, false), 0);
    for (int i = 0; i < 16; i++) {
      Check.is("8: keys up to " + i, house.wish(8, i, true), i + 1);
    }
    for (int i = 15; i >= 0; i--) {
      Check.is("8: keys below " + i, house.wish(8, i, false), i);
    }
  }

  private static void wishRefused() {
    for (boolean is : new boolean[] {true, false}) {
      Check.refusesOutside("8: door", Check.INDEX, 0, 9, Check::full, (x, n) -> x.wish(n, 0, is));
      Check.refusesOutside("8: key", Check.INDEX, 0, 15, Check::full, (x, n) -> x.wish(0, n, is));
    }
    Check.Setting lost = x -> {
      Check.full(x);
      x.wish(1, 15, true);
      x.lose(15);
    };
    Check.refuses("8: a lost key", Check.UNSUPPORTED, lost, x -> x.wish(0, 15, true));
    Check.refuses("8: a lost key, no such door is first", Check.INDEX, lost, x -> x.wish(10, 15, true));
    KeyWard house = Check.made(lost);
    Check.is("8: a lost key that is wished may be wished again", house.wish(1, 15, true), 1);
    Check.is("8: a lost key may be wished no more", house.wish(1, 15, false), 0);
    Check.refuses("8: a lost key that was wished once", Check.UNSUPPORTED, x -> {
      lost.of(x);
      x.wish(1, 15, false);
    }, x -> x.wish(1, 15, true));
  }

  /** The bits 1, 2 and 4 of a profile and of a ward, each with each. */
  private static void wishesByProfile() {
    for (int i = 0; i < 64; i++) {
      int profile = i / 8;
      int ward = i % 8;
      Check.Setting setting = x -> {
        x.machine(3, 2, 1);
        x.setBlank(profile);
        Check.key(x, 0, 1, 0);
        x.addDoor();
        x.setWard(0, ward);
      };
      String what = "8: profile " + profile + ", ward " + ward;
      if ((profile & ward) == 0) {
        Check.is(what, Check.made(setting).wish(0, 0, true), 1);
      } else {
        Check.refuses(what, Check.UNSUPPORTED, setting, x -> x.wish(0, 0, true));
        Check.is(what + ", no more", Check.made(setting).wish(0, 0, false), 0);
      }
    }
  }

  private static void isWishedEnds() {
    KeyWard house = Check.made(Check::full);
    house.wish(9, 15, true);
    Check.is("9: the last door, the last key", house.isWished(9, 15), true);
    Check.is("9: the last door, another key", house.isWished(9, 14), false);
    Check.is("9: another door, the last key", house.isWished(8, 15), false);
    Check.refusesOutside("9: door", Check.INDEX, 0, 9, Check::full, (x, n) -> x.isWished(n, 0));
    Check.refusesOutside("9: key", Check.INDEX, 0, 15, Check::full, (x, n) -> x.isWished(0, n));
  }

  private static void pinsEnds() {
    KeyWard house = Check.made(x -> x.machine(6, 6, 5));
    Check.doors(house, 10);
    for (int i = 0; i < 6; i++) {
      Check.is("10: no key, chamber " + i, house.pins(9, i), 0);
    }
    for (int i = 0; i < 6; i++) {
      house.wish(9, Check.key(house, i, i, i, i, i, 5), true);
      Check.is("10: depths up to " + i, house.pins(9, 4), i + 1);
      Check.is("10: the depth 5 alone", house.pins(9, 5), 1);
    }
    Check.is("10: all depths of the first chamber", house.pins(9, 0), 6);
    Check.refusesOutside("10: door", Check.INDEX, 0, 9, Check::full, (x, n) -> x.pins(n, 0));
    for (int chambers = 3; chambers <= 6; chambers++) {
      int all = chambers;
      Check.refusesOutside("10: chamber", Check.INDEX, 0, all - 1, x -> {
        x.machine(all, 2, 1);
        x.addDoor();
      }, (x, n) -> x.pins(0, n));
    }
  }

  private static void opensEnds() {
    KeyWard house = Check.made(Check::full);
    Check.is("11: no key is wished", house.opens(9, 15), false);
    house.wish(9, 15, true);
    Check.is("11: the last door, the last key", house.opens(9, 15), true);
    Check.is("11: one chamber is not let in", house.opens(9, 14), false);
    house.wish(9, 15, false);
    Check.is("11: no key is wished any more", house.opens(9, 15), false);
    Check.refusesOutside("11: door", Check.INDEX, 0, 9, Check::full, (x, n) -> x.opens(n, 0));
    Check.refusesOutside("11: key", Check.INDEX, 0, 15, Check::full, (x, n) -> x.opens(0, n));
    for (int c = 0; c < 6; c++) {
      KeyWard one = Check.made(x -> x.machine(6, 6, 5));
      one.addDoor();
      int[] other = {5, 5, 5, 5, 5, 5};
      other[c] = 0;
      one.wish(0, Check.key(one, 5, 5, 5, 5, 5, 5), true);
      Check.is("11: only the chamber " + c + " is another", one.opens(0, Check.key(one, other)), false);
    }
  }

  private static void straysEnds() {
    KeyWard house = Check.made(x -> Check.smallKeys(x, 16));
    Check.doors(house, 10);
    Check.is("12: no key is wished", house.strays(9), 0);
    house.wish(9, 0, true);
    house.wish(9, 15, true);
    Check.is("12: all others are strays", house.strays(9), 14);
    Check.is("12: another door has none", house.strays(8), 0);
    for (int i = 1; i < 15; i++) {
      house.wish(9, i, true);
      Check.is("12: strays above " + i, house.strays(9), 14 - i);
    }
    house.wish(8, 1, true);
    house.wish(8, 2, true);
    house.wish(8, 3, true);
    Check.is("12: the first key alone", house.strays(8), 1);
    house.wish(7, 12, true);
    house.wish(7, 13, true);
    house.wish(7, 14, true);
    Check.is("12: the last key alone", house.strays(7), 1);
    Check.refusesOutside("12: door", Check.INDEX, 0, 9, Check::full, KeyWard::strays);
  }

  private static void admitsEnds() {
    KeyWard house = Check.made(x -> x.machine(6, 6, 5));
    Check.doors(house, 10);
    for (int i = 0; i < 6; i++) {
      house.wish(9, Check.key(house, i, i, i, i, i, i), true);
    }
    Check.is("13: all keys that could be cut", house.admits(9), 46656);
    Check.is("13: no key is wished", house.admits(8), 0);
    house.setBlank(7);
    Check.is("13: the ward is 0", house.admits(9), 46656);
    house.setWard(9, 7);
    Check.is("13: the blank does not fit", house.admits(9), 0);
    house.setBlank(0);
    Check.is("13: the blank fits each ward", house.admits(9), 46656);
    KeyWard near = Check.made(x -> x.machine(3, 6, 1));
    near.addDoor();
    for (int i = 0; i < 6; i++) {
      near.wish(0, Check.key(near, i, i, i), true);
    }
    Check.is("13: only those that could be cut", near.admits(0), 44);
    Check.refusesOutside("13: door", Check.INDEX, 0, 9, Check::full, KeyWard::admits);
  }
}
