/** Promise 9: years that are told. */
public final class YearsTest {
  private static final int UNKNOWN = -1, OUTSIDE = -2, STATE = -3, NONE = -9;

  public static void main(String[] args) {
    ordinaryYears();
    broken();
    refusals();
    mostYears();
    Due.end();
  }

  private static void ordinaryYears() {
    for (int lane = 0; lane < 3; lane++) {
      ProphetCover x = Due.officeBy("w/0/2/9;m401;s206;l131;l005");
      // paid to all: 0:0 1:6 2:3 3:9 4:5 5:11 6:8 7:14; said that are there: 1 + 2 + 3 + 2
      Due.row(x, 0, lane, 99, 0, 7, 1, 6, 99);
      Due.due("9: has", x.years(1, 0, lane, 1, 4, 0), 4 * 8 - 28);
      Due.due("9: has", x.years(0, 0, lane, 1, 4, 0), -28);
      Due.due("9: has", x.years(9, 0, lane, 1, 4, 0), 4 * 72 - 28);
      Due.due("9: all", x.years(9, 0, lane, 1, 4, 2), 28);
      Due.due("9: most", x.years(9, 0, lane, 1, 4, 3), 14);
      Due.due("9: to prophet 0", x.years(9, 0, lane, 1, 4, 10), 8);
      Due.due("9: to prophet 1", x.years(9, 0, lane, 1, 4, 11), 12);
      Due.due("9: to prophet 2, a fraud", x.years(9, 0, lane, 1, 4, 12), 0);
      Due.due("9: to prophet 3", x.years(9, 0, lane, 1, 4, 13), 8);
      Due.due("9: from another place", x.years(9, 0, lane, 3, 2, 2), 14);
      Due.due("9: no years", x.years(9, 0, lane, 6, 0, 0), 0);
      Due.due("9: no years", x.years(9, 0, lane, 6, 0, 1), NONE);
      Due.due("9: no years", x.years(9, 0, lane, 6, 0, 2), 0);
      Due.due("9: no years", x.years(9, 0, lane, 6, 0, 3), 0);
      Due.due("9: no years", x.years(9, 0, lane, 6, 0, 10), 0);
    }
    ProphetCover x = Due.officeBy("w/1;m500");
    Due.row(x, 0, 0, 1, 2);
    Due.due("9: no such prophet", x.years(0, 0, 0, 0, 1, 11), NONE);
    Due.due("9: no such prophet", x.years(0, 0, 0, 0, 1, 13), NONE);
    Due.due("9: refused all the same", x.years(0, 0, 0, 0, 2, 13), OUTSIDE);
    Due.due("9: a fault all the same", x.years(0, 0, 0, 0, 3, 13), -13);
    Due.due("9: nothing paid", x.years(0, 0, 0, 0, 1, 10), 0);
  }

  private static void broken() {
    ProphetCover x = Due.officeBy("w/1/1;m301");
    Due.row(x, 0, 2, 0, 1, 1, 1, 0, 0, 0, 0);
    // at 2 a year: 2, 1, 0, -1, 1, 3 ..
    Due.due("9: 0 is not broken", x.years(2, 0, 2, 0, 3, 1), NONE);
    Due.due("9: broken", x.years(2, 0, 2, 0, 4, 1), 3);
    Due.due("9: broken though it has more again", x.years(2, 0, 2, 0, 6, 1), 3);
    Due.due("9: has more again", x.years(2, 0, 2, 0, 6, 0), 3);
    Due.due("9: broken at once", x.years(2, 0, 2, 1, 3, 1), 0);
    Due.due("9: counted from the first year told", x.years(1, 0, 2, 0, 4, 1), 1);
    Due.due("9: never", x.years(3, 0, 2, 0, 8, 1), NONE);
  }

  private static void yearsFaultIs(ProphetCover x, int got, int number) {
    Due.due("9: a fault", got, -10 - number);
    Due.due("30: the fault of years", x.fault(), number);
  }

  private static void refusals() {
    ProphetCover x = new ProphetCover();
    Due.due("9: no office", x.years(0, 0, 0, 0, 0, 0), STATE);
    Due.due("9: outside ahead of no office", x.years(10, 0, 0, 0, 0, 0), OUTSIDE);
    Due.due("9: unknown ahead of all", x.years(10, 4, 0, 0, 0, 0), UNKNOWN);
    x = Due.officeBy("w/1/1;m301");
    Due.row(x, 0, 0, 0, 1, 2, 3, 4, -1);
    Due.row(x, 1, 2, 0, 256, 65536);
    yearsFaultIs(x, x.years(0, 2, 1, -1, 0, 0), 1);
    Due.due("9: unknown sheet", x.years(0, -1, 0, 0, 0, 0), UNKNOWN);
    Due.due("30: refused", x.fault(), 0);
    Due.due("9: premium", x.years(-1, 0, 0, 0, 0, 0), OUTSIDE);
    Due.due("9: premium", x.years(10, 0, 0, 0, 0, 0), OUTSIDE);
    Due.due("9: lane", x.years(0, 0, -1, 0, 0, 0), OUTSIDE);
    Due.due("9: lane", x.years(0, 0, 3, 0, 0, 0), OUTSIDE);
    Due.due("9: n", x.years(0, 0, 0, 0, -1, 0), OUTSIDE);
    Due.due("9: n ahead of its fault", x.years(0, 0, 1, 0, 41, 0), OUTSIDE);
    int[] wrong = {-1, 4, 9, 14, Integer.MIN_VALUE, Integer.MIN_VALUE + 10, Integer.MAX_VALUE};
    for (int what : wrong) {
      Due.due("9: what " + what, x.years(0, 0, 0, 0, 0, what), OUTSIDE);
    }
    yearsFaultIs(x, x.years(0, 0, 1, -1, 1, 0), 2);
    yearsFaultIs(x, x.years(0, 0, 0, -1, 0, 0), 3);
    yearsFaultIs(x, x.years(0, 0, 0, 7, 0, 0), 3);
    yearsFaultIs(x, x.years(0, 0, 0, 4, 3, 0), 3);
    yearsFaultIs(x, x.years(0, 0, 0, Integer.MAX_VALUE, 40, 0), 3);
    Due.due("9: sets alone", x.years(0, 0, 0, 0, 4, 2), 6);
    Due.due("30: no fault", x.fault(), 0);
    Due.due("9: no set", x.years(0, 0, 0, 4, 1, 2), OUTSIDE);
    Due.due("9: no set", x.years(0, 0, 0, 5, 1, 2), OUTSIDE);
    Due.due("9: no set at the end", x.years(0, 0, 0, 0, 5, 2), OUTSIDE);
    Due.due("9: no set, as an int", x.years(0, 1, 2, 1, 1, 2), OUTSIDE);
    Due.due("9: no set, as an int", x.years(0, 1, 2, 2, 1, 2), OUTSIDE);
    Due.due("30: refused", x.fault(), 0);
  }

  private static void mostYears() {
    ProphetCover x = Due.officeBy("w/9/9/9/9/9;l915;l915;l915;l915");
    x.sheet(0, 1, 60);
    for (int i = 0; i < 60; i++) {
      x.put(0, i, i < 20 ? 16 : 31);
    }
    Due.due("9: forty years", x.years(9, 0, 1, 20, 40, 0), 40 * (16 * 9 - 320));
    Due.due("9: forty years", x.years(9, 0, 1, 20, 40, 2), 12800);
    Due.due("9: forty years", x.years(9, 0, 1, 0, 40, 1), 36);
    Due.due("9: forty years", x.years(4, 0, 1, 0, 40, 1), 25);
    Due.due("9: forty-one", x.years(9, 0, 1, 0, 41, 0), OUTSIDE);
  }
}
