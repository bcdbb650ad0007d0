/** The promises 59 to 62. */
public final class FiguresTest {
  public static void main(String[] args) {
    sums();
    sharesClean();
    meansWished();
    soundAtAllTimes();
    Check.end();
  }

  /** Three doors, the first with two keys wished and one stray, the second with one, the third none. */
  private static void doors(KeyWard house) {
    Check.smallKeys(house, 4);
    Check.doors(house, 3);
    house.wish(0, 1, true);
    house.wish(0, 2, true);
    house.wish(1, 3, true);
  }

  private static void sums() {
    KeyWard house = Check.made(FiguresTest::doors);
    Check.is("59: 4, 1 and 0", house.checksum(), (4L * 31 + 1) * 31);
    house.addDoor();
    Check.is("59: a door more", house.checksum(), (4L * 31 + 1) * 31 * 31);
    house.setWard(0, 1);
    house.setBlank(1);
    Check.is("59: the blank does not fit the first door", house.checksum(), 31L * 31);
    KeyWard large = Check.made(x -> x.machine(6, 6, 5));
    for (int i = 0; i < 6; i++) {
      Check.key(large, i, i, i, i, i, i);
    }
    long due = 0;
    for (int d = 0; d < 10; d++) {
      large.addDoor();
      for (int i = 0; i < 6; i++) {
        large.wish(d, i, true);
      }
      due = due * 31 + 46656;
    }
    Check.is("59: a sum beyond int", large.checksum(), due);
  }

  private static void sharesClean() {
    KeyWard house = Check.made(FiguresTest::doors);
    Check.is("60: two of three", house.cleanShare(), 2.0f / 3.0f);
    house.wish(0, 0, true);
    Check.is("60: still one stray", house.cleanShare(), 2.0f / 3.0f);
    house.wish(0, 3, true);
    Check.is("60: all", house.cleanShare(), 1.0f);
    KeyWard none = Check.made(x -> Check.smallKeys(x, 4));
    none.addDoor();
    Check.is("60: a door that is opened by none", none.cleanShare(), 1.0f);
    none.wish(0, 1, true);
    none.wish(0, 2, true);
    Check.is("60: none", none.cleanShare(), 0.0f);
    Check.refuses("60: no doors", Check.ARITHMETIC, x -> Check.smallKeys(x, 1), KeyWard::cleanShare);
  }

  private static void meansWished() {
    KeyWard house = Check.made(FiguresTest::doors);
    Check.is("61: three by three", house.meanWished(), 1.0);
    house.wish(2, 0, true);
    Check.is("61: four by three", house.meanWished(), 4.0 / 3.0);
    house.setBuilding(1, 0);
    Check.is("61: a building key is not wished", house.meanWished(), 4.0 / 3.0);
    KeyWard none = new KeyWard();
    none.addDoor();
    Check.is("61: none", none.meanWished(), 0.0);
    Check.refuses("61: no doors", Check.ARITHMETIC, x -> Check.smallKeys(x, 1), KeyWard::meanWished);
  }

  private static void soundAtAllTimes() {
    Check.is("62: a new one", new KeyWard().isSound(), true);
    KeyWard house = Check.made(FiguresTest::doors);
    Check.is("62: four chambers", house.isSound(), true);
    house.setWard(0, 2);
    house.setBlank(2);
    Check.is("62: a blank that does not fit", house.isSound(), true);
    house.lose(1);
    house.setBuilding(2, 0);
    Check.is("62: with a lost key and a building key", house.isSound(), true);
    KeyWard near = Check.made(x -> x.machine(4, 6, 1));
    near.addDoor();
    near.wish(0, Check.key(near, 0, 1, 2, 3), true);
    near.wish(0, Check.key(near, 3, 2, 1, 2), true);
    Check.is("62: depths that differ too much", near.isSound(), true);
    KeyWard five = new KeyWard();
    five.addDoor();
    five.wish(0, Check.key(five, 0, 3, 0, 3, 0), true);
    Check.is("62: five chambers", five.isSound(), true);
  }
}
