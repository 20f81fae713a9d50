/** Promises 10 to 14: premiums. */
public final class PremiumsTest {
  private static final int UNKNOWN = -1, OUTSIDE = -2, STATE = -3, NONE = -9;
  private static final long LOST = Long.MIN_VALUE;

  public static void main(String[] args) {
    fairAndSafe();
    hold();
    best();
    came();
    Due.end();
  }

  private static void isFair(ProphetCover x, int p, long upper, long lower) {
    Due.due("10: upper", x.fair(p, 0), upper);
    Due.due("10: lower", x.fair(p, 1), lower);
  }

  private static void fairAndSafe() {
    ProphetCover x = Due.officeBy("w/5/2/0;m401;s206;l131;l305");
    isFair(x, 0, 2, 1);
    isFair(x, 1, 3, 5);
    isFair(x, 2, 0, 1);
    isFair(x, 3, 4, 1);
    Due.due("11: safe", x.safe(0), 4);
    Due.due("11: safe, though a chance is 0", x.safe(1), 6);
    Due.due("11: safe of a fraud", x.safe(2), 0);
    Due.due("11: safe, though a chance is 0", x.safe(3), 16);
    x.say(2, 27);
    isFair(x, 2, 14, 5);
    Due.due("11: safe", x.safe(2), 8);
    x.say(2, 24);
    isFair(x, 2, 0, 1);
    Due.due("11: nothing that is there was said", x.safe(2), 0);
    Due.due("10: unknown", x.fair(4, 0), LOST);
    Due.due("10: unknown", x.fair(-1, 0), LOST);
    Due.due("10: outside", x.fair(0, 2), LOST);
    Due.due("10: outside", x.fair(0, -1), LOST);
    Due.due("11: unknown", x.safe(4), UNKNOWN);
    Due.due("11: unknown", x.safe(-1), UNKNOWN);
    isFair(Due.officeBy("w/0/2;m901"), 0, 0, 1);
    isFair(Due.officeBy("w/3/2;m001"), 0, 0, 1);
    isFair(Due.officeBy("w/9/9/9/9/9;l915"), 0, 72, 1);
  }

  private static void hold() {
    // 0: .6, 7: .4
    ProphetCover x = Due.officeBy("w/4/2;m701");
    for (int n = 0; n <= 10; n++) {
      Due.due("12: hold(" + n + ")", x.hold(n), n <= 6 ? 0 : 7);
    }
    // 0: .45, 1: .45, 10: .05, 11: .05
    x = Due.officeBy("w/5/1/0;m101;l402;l904");
    int[] due = {0, 0, 0, 0, 0, 1, 1, 1, 1, 1, 11};
    for (int n = 0; n <= 10; n++) {
      Due.due("12: hold(" + n + "), what never comes left out", x.hold(n), due[n]);
    }
    x.fate(2, 1);
    Due.due("12: by what may come", x.hold(10), 31);
    Due.due("12: outside", x.hold(11), OUTSIDE);
    Due.due("12: outside", x.hold(-1), OUTSIDE);
    Due.due("12: outside first", new ProphetCover().hold(11), OUTSIDE);
    Due.due("12: outside first", new ProphetCover().hold(-1), OUTSIDE);
    Due.due("12: no office", new ProphetCover().hold(10), STATE);
    Due.due("12: a fraud alone", Due.officeBy("w/9;l901").hold(10), 0);
    Due.due("12: nine of ten", Due.officeBy("w/9/1;l901").hold(1), 0);
    Due.due("12: nine of ten", Due.officeBy("w/9/1;l901").hold(2), 20);
  }

  private static void best() {
    ProphetCover x = Due.officeBy("w/5/2/9;m401;s206;l131;m001");
    // tenths an event, less premium: 20 8 36 / 15 6 27 / 20 8 36 / 0 0 0
    int[][] due = {{5, 5, 4, 4, 0}, {5, 5, 4, 0, 0}, {5, 5, 4, 4, 0}, {0, 0, 0, 0, 0}};
    for (int p = 0; p < 4; p++) {
      for (int premium = 0; premium < 5; premium++) {
        Due.due("13: best(" + p + ", " + premium + ")", x.best(p, premium), due[p][premium]);
      }
      Due.due("13: too dear", x.best(p, 9), 0);
    }
    Due.due("13: unknown first", x.best(4, 10), UNKNOWN);
    Due.due("13: unknown", x.best(-1, 0), UNKNOWN);
    Due.due("13: outside", x.best(0, 10), OUTSIDE);
    Due.due("13: outside", x.best(0, -1), OUTSIDE);
    Due.due("13: nothing changes", x.ofProphet(0, 2), 1);
    x = Due.officeBy("w/5/5/5;m401;l908");
    Due.due("13: the least of several", x.best(0, 0), 3);
    Due.due("13: the least of several, by nothing", x.best(0, 2), 0);
    Due.due("13: at the dearest", x.best(1, 9), 3);
    x.fate(0, 0);
    Due.due("13: what never comes is not said", x.best(0, 0), 6);
    x.fate(1, 0);
    Due.due("13: what never comes is not said", x.best(0, 0), 4);
    Due.due("13: of one event none", Due.officeBy("w/9;l900").best(0, 0), 0);
    Due.due("13: a tenth is something", Due.officeBy("w/1/1;m100").best(0, 0), 1);
    Due.due("13: of five four", Due.officeBy("w/9/1/2/3/4;l900").best(0, 0), 29);
    Due.due("13: of five four, the least", Due.officeBy("w/9/9/9/9/9;l900").best(0, 9), 15);
  }

  private static void came() {
    // 0:0 1:4 2:0 3:4 4:4 5:8 6:4 7:8
    ProphetCover x = Due.officeBy("w/5/0/9;m405;l931");
    Due.due("14: how many", x.came(0, 0), 2);
    Due.due("14: the least", x.came(0, 1), 0);
    Due.due("14: how many", x.came(4, 0), 4);
    Due.due("14: the least", x.came(4, 1), 1);
    Due.due("14: how many", x.came(8, 0), 2);
    Due.due("14: the least", x.came(8, 1), 5);
    Due.due("14: none", x.came(5, 0), 0);
    Due.due("14: none", x.came(5, 1), NONE);
    Due.due("14: none", x.came(999, 0), 0);
    Due.due("14: none", x.came(999, 1), NONE);
    Due.due("14: outside", x.came(1000, 0), OUTSIDE);
    Due.due("14: outside", x.came(-1, 0), OUTSIDE);
    Due.due("14: outside", x.came(0, 2), OUTSIDE);
    Due.due("14: outside", x.came(0, -1), OUTSIDE);
    Due.due("14: outside first", new ProphetCover().came(1000, 0), OUTSIDE);
    Due.due("14: outside first", new ProphetCover().came(0, 2), OUTSIDE);
    Due.due("14: no office", new ProphetCover().came(0, 0), STATE);
    Due.due("14: all sets", Due.officeBy("w/1/1/1/1/1;l900").came(0, 0), 32);
    Due.due("14: all events", Due.officeBy("w/1/1;m101;m302").came(4, 1), 3);
  }
}
