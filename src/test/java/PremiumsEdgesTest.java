/** The edges of promises 10 to 14: fair, safe, hold, best, came. */
public final class PremiumsEdgesTest {
  private static final int UNKNOWN = -1, OUTSIDE = -2, STATE = -3, NONE = -9;
  private static final long LOST = Long.MIN_VALUE;
  private static final String BEST = "the set of EVENTS that there are (not of all) by which, were it"
      + " what they SAID, what is PAID to them, less PREMIUMS, is most on the mean: of several the least";

  public static void main(String[] args) throws Exception {
    Edges.run(PremiumsEdgesTest.class);
  }

  // ---- promise 10: fair

  private static void isFair(ProphetCover x, int p, long upper, long lower) {
    Due.due("upper of " + p, x.fair(p, 0), upper);
    Due.due("lower of " + p, x.fair(p, 1), lower);
  }

  @Says("FAIR of a PROPHET: what is PAID to them in a YEAR, on the mean.")
  static void promise10_onTheMean() {
    ProphetCover x = Due.officeBy(Still.FOUR);
    isFair(x, 0, 2, 1);
    isFair(x, 1, 33, 10);
    isFair(x, 2, 0, 1);
    isFair(x, 3, 49, 5);
    x.fate(1, 0);
    isFair(x, 1, 27, 10);
    x.fate(2, 0);
    isFair(x, 1, 0, 1);
  }

  @Says("FAIR of a PROPHET: what is PAID to them in a YEAR, on the mean.")
  static void promise10_nothingToFraudsAndForWhatIsNotThere() {
    ProphetCover x = Due.officeBy("w/9/9;l903;l931;l928;l929");
    isFair(x, 0, 0, 1);
    isFair(x, 1, 0, 1);
    isFair(x, 2, 0, 1);
    isFair(x, 3, 18, 1);
  }

  @Says("FAIR of a PROPHET: what is PAID to them in a YEAR, on the mean.")
  static void promise10_theLeastAndTheMost() {
    isFair(Due.officeBy("w/1/1;m101"), 0, 1, 10);
    isFair(Due.officeBy("w/0/1;l901"), 0, 0, 1);
    isFair(Due.officeBy("w/9/9/9/9/9;l930"), 0, 72, 1);
  }

  @Says("FAIR (which 0 the upper, 1 the lower number). LOST: UNKNOWN; OUTSIDE.")
  static void promise10_lostOutsideWhich() {
    for (int which : new int[] {-1, 2, Integer.MIN_VALUE, Integer.MAX_VALUE}) {
      Still.refused(x -> x.fair(0, which), LOST);
    }
  }

  @Says("FAIR (which 0 the upper, 1 the lower number). LOST: UNKNOWN; OUTSIDE.")
  static void promise10_lostForAnUnknownProphet() {
    for (int p : new int[] {-1, 4, Integer.MIN_VALUE, Integer.MAX_VALUE}) {
      Still.refused(x -> x.fair(p, 0), LOST);
      Still.refused(x -> x.fair(p, 1), LOST);
    }
    Still.refusedBare(x -> x.fair(0, 0), LOST);
  }

  // ---- promise 11: safe

  @Says("SAFE of a PROPHET: the most that can be PAID to them in a YEAR (a CHANCE of 0, too, may come).")
  static void promise11_aChanceOf0TooMayCome() {
    ProphetCover x = Due.officeBy("w/0/0/5;m403;s301;l204");
    Due.due("two of 0", x.safe(0), 8);
    Due.due("one of 0", x.safe(1), 4);
    Due.due("one of 5", x.safe(2), 6);
    x.fate(2, 0);
    Due.due("all of 0", x.safe(2), 6);
  }

  @Says("SAFE of a PROPHET: the most that can be PAID to them in a YEAR (a CHANCE of 0, too, may come).")
  static void promise11_theLeastAndTheMost() {
    ProphetCover x = Due.officeBy("w/9/9/9/9/9;l915;l931;m000;m030");
    Due.due("the most", x.safe(0), 80);
    Due.due("a fraud", x.safe(1), 0);
    Due.due("who said nothing", x.safe(2), 0);
    Due.due("of cover 0", x.safe(3), 0);
    Due.due("what is not there", Due.officeBy("w/9/9;l928").safe(0), 0);
  }

  @Says("SAFE. UNKNOWN.")
  static void promise11_unknown() {
    for (int p : new int[] {-1, 4, Integer.MIN_VALUE, Integer.MAX_VALUE}) {
      Still.refused(x -> x.safe(p), UNKNOWN);
    }
    Still.refusedBare(x -> x.safe(0), UNKNOWN);
  }

  // ---- promise 12: hold

  private static void areHolds(ProphetCover x, int... due) {
    for (int n = 0; n <= 10; n++) {
      Due.due("hold(" + n + ")", x.hold(n), due[n]);
    }
  }

  @Says("HOLD by n (of 10): the least that is as much at least as what is PAID to all together, in n of"
      + " 10 at least.")
  static void promise12_everyN() {
    // 0: .04, 3: .01, 10: .36, 11: .04, 13: .09, 14: .01, 21: .36, 24: .09
    areHolds(Due.officeBy(Still.FOUR), 0, 10, 10, 10, 10, 13, 21, 21, 21, 21, 24);
  }

  @Says("HOLD by n (of 10): the least that is as much at least as what is PAID to all together, in n of"
      + " 10 at least.")
  static void promise12_justNOfTenIsEnough() {
    for (int chance = 0; chance <= 9; chance++) {
      ProphetCover x = Due.officeBy("w/" + chance + "/5;m701");
      for (int n = 0; n <= 10; n++) {
        Due.due("hold(" + n + ") at " + chance, x.hold(n), n <= 10 - chance ? 0 : 7);
      }
    }
  }

  @Says("HOLD by n (of 10): the least that is as much at least as what is PAID to all together, in n of"
      + " 10 at least.")
  static void promise12_oneLessIsLess() {
    // 0: .45, 1: .45, 10: .05, 11: .05
    ProphetCover x = Due.officeBy("w/5/1/0;m101;l402;l904");
    areHolds(x, 0, 0, 0, 0, 0, 1, 1, 1, 1, 1, 11);
    x.fate(1, 2);
    areHolds(x, 0, 0, 0, 0, 0, 1, 1, 1, 1, 10, 11);
  }

  @Says("HOLD by n (of 10): the least that is as much at least as what is PAID to all together, in n of"
      + " 10 at least.")
  static void promise12_by0ItIs0() {
    Due.due("though something is mostly paid", Due.officeBy("w/9/9/9/9/9;l930;l915").hold(0), 0);
  }

  @Says("HOLD by n (of 10): the least that is as much at least as what is PAID to all together, in n of"
      + " 10 at least.")
  static void promise12_by10ItIsTheMostThatMayComeByItsChance() {
    ProphetCover x = Due.officeBy("w/0/1;l901;m302");
    Due.due("a chance of 0 left out", x.hold(10), 3);
    x.fate(0, 1);
    Due.due("a chance of 1 not left out", x.hold(10), 23);
    x.fate(0, 0);
    x.fate(1, 0);
    Due.due("nothing may come", x.hold(10), 0);
    Due.due("the most", Due.officeBy("w/1/1/1/1/1;l915;l915;l915;l915").hold(10), 320);
  }

  @Says("HOLD by n (of 10): the least that is as much at least as what is PAID to all together, in n of"
      + " 10 at least.")
  static void promise12_fraudsNeedNothing() {
    areHolds(Due.officeBy("w/9/9;l903;l931"), 0, 0, 0, 0, 0, 0, 0, 0, 0, 0, 0);
  }

  @Says("HOLD by n (0 .. 10). OUTSIDE; STATE: there is no OFFICE.")
  static void promise12_outsideNAheadOfNoOffice() {
    for (int n : new int[] {-1, 11, Integer.MIN_VALUE, Integer.MAX_VALUE}) {
      Still.refused(x -> x.hold(n), OUTSIDE);
      Still.refusedBare(x -> x.hold(n), OUTSIDE);
    }
  }

  @Says("HOLD by n (0 .. 10). OUTSIDE; STATE: there is no OFFICE.")
  static void promise12_noOffice() {
    for (int n : new int[] {0, 1, 10}) {
      Still.refusedBare(x -> x.hold(n), STATE);
    }
  }

  // ---- promise 13: best

  private static void areBest(ProphetCover x, int p, int... due) {
    for (int premium = 0; premium <= 9; premium++) {
      Due.due("best(" + p + ", " + premium + ")", x.best(p, premium), due[premium]);
    }
  }

  @Says(BEST)
  static void promise13_everyPremium() {
    ProphetCover x = Due.officeBy(Still.FOUR);
    areBest(x, 0, 5, 5, 4, 4, 0, 0, 0, 0, 0, 0);
    areBest(x, 1, 5, 5, 4, 0, 0, 0, 0, 0, 0, 0);
    areBest(x, 2, 5, 5, 4, 4, 0, 0, 0, 0, 0, 0);
    areBest(x, 3, 5, 5, 5, 5, 4, 4, 4, 0, 0, 0);
  }

  @Says(BEST)
  static void promise13_notOfAll() {
    Due.due("of one none", Due.officeBy("w/9;l901").best(0, 0), 0);
    Due.due("of two one", Due.officeBy("w/1/9;l903").best(0, 0), 2);
    Due.due("of three two", Due.officeBy("w/8/7/9;l907").best(0, 0), 5);
    Due.due("of four three", Due.officeBy("w/8/7/6/9;l915").best(0, 0), 11);
    Due.due("of five four", Due.officeBy("w/8/7/6/5/9;l931").best(0, 9), 23);
  }

  @Says(BEST)
  static void promise13_ofSeveralTheLeast() {
    ProphetCover x = Due.officeBy("w/5/5/5/5/5;m400");
    Due.due("four of five", x.best(0, 0), 15);
    Due.due("as much by nothing", x.best(0, 2), 0);
    Due.due("of three", Due.officeBy("w/5/5/5;m400").best(0, 0), 3);
    Due.due("of two", Due.officeBy("w/5/5;m400").best(0, 0), 1);
    Due.due("what never comes is left out", Due.officeBy("w/0/5/0/5/0;m900").best(0, 0), 10);
    Due.due("what brings just its premium, too", Due.officeBy("w/5/6/7;m400").best(0, 2), 6);
    Due.due("what brings just its premium, too", Due.officeBy("w/5/4/7;m400").best(0, 2), 4);
  }

  @Says(BEST)
  static void promise13_whereNothingIsGained() {
    Due.due("of cover 0", Due.officeBy("w/9/9;m000").best(0, 0), 0);
    Due.due("too dear", Due.officeBy("w/9/9;m900").best(0, 9), 0);
    Due.due("nothing comes", Due.officeBy("w/0/0;l900").best(0, 0), 0);
    Due.due("a tenth is a gain", Due.officeBy("w/1/1;m100").best(0, 0), 1);
    Due.due("a tenth is a gain", Due.officeBy("w/7/3;m300").best(0, 2), 1);
  }

  @Says(BEST)
  static void promise13_whateverTheySaid() {
    for (int said = 0; said <= 31; said++) {
      ProphetCover x = Due.officeBy("w/5/2/9;m400");
      x.say(0, said);
      Due.due("best", x.best(0, 1), 5);
      Due.due("it is not said by that", x.ofProphet(0, 2), said);
    }
  }

  @Says("BEST at a PREMIUM (0 .. 9), as a set. UNKNOWN; OUTSIDE.")
  static void promise13_outsidePremium() {
    for (int premium : new int[] {-1, 10, Integer.MIN_VALUE, Integer.MAX_VALUE}) {
      Still.refused(x -> x.best(0, premium), OUTSIDE);
      Still.refused(x -> x.best(3, premium), OUTSIDE);
    }
  }

  @Says("BEST at a PREMIUM (0 .. 9), as a set. UNKNOWN; OUTSIDE.")
  static void promise13_unknownProphetAheadOfPremium() {
    for (int p : new int[] {-1, 4, Integer.MIN_VALUE, Integer.MAX_VALUE}) {
      Still.refused(x -> x.best(p, 0), UNKNOWN);
      Still.refused(x -> x.best(p, 10), UNKNOWN);
    }
    Still.refusedBare(x -> x.best(0, 10), UNKNOWN);
  }

  // ---- promise 14: came

  private static void isCame(ProphetCover x, int v, int count, int least) {
    Due.due("how many by " + v, x.came(v, 0), count);
    Due.due("the least by " + v, x.came(v, 1), least);
  }

  @Says("CAME by v: sets of EVENTS by which what is PAID to all together is v: how many there are, the"
      + " least one.")
  static void promise14_howManyAndTheLeast() {
    ProphetCover x = Due.officeBy("w/5/5/5;m401;l931;s302");
    isCame(x, 0, 2, 0);
    isCame(x, 4, 4, 1);
    isCame(x, 8, 2, 3);
    x.say(2, 6);
    isCame(x, 0, 1, 0);
    isCame(x, 4, 3, 1);
    isCame(x, 8, 3, 3);
    isCame(x, 12, 1, 7);
  }

  @Says("CAME by v: sets of EVENTS by which what is PAID to all together is v: how many there are, the"
      + " least one.")
  static void promise14_aChanceOf0CountsToo() {
    isCame(Due.officeBy("w/0/0;m401"), 4, 2, 1);
    isCame(Due.officeBy("w/0/0/0/0/0;l915"), 80, 2, 15);
  }

  @Says("CAME by v (0 .. 999): how many (what 0), the least one, as a set (1; NONE: there is none).")
  static void promise14_thereIsNone() {
    ProphetCover x = Due.officeBy(Still.FOUR);
    isCame(x, 24, 1, 7);
    for (int v : new int[] {1, 12, 23, 25, 999}) {
      isCame(x, v, 0, NONE);
    }
    isCame(Due.officeBy("w/5;l901"), 20, 0, NONE);
  }

  @Says("CAME by v (0 .. 999): how many (what 0), the least one, as a set (1; NONE: there is none).")
  static void promise14_allSetsWhereNothingIsEverPaid() {
    isCame(Due.officeBy("w/5;l901"), 0, 2, 0);
    isCame(Due.officeBy("w/5/5/5/5/5;l900;l931;m015"), 0, 32, 0);
  }

  @Says("OUTSIDE; STATE: there is no OFFICE.\n\n## Promise 15: reading")
  static void promise14_outsideVAndWhatAheadOfNoOffice() {
    for (int v : new int[] {-1, 1000, Integer.MIN_VALUE, Integer.MAX_VALUE}) {
      Still.refused(x -> x.came(v, 0), OUTSIDE);
      Still.refusedBare(x -> x.came(v, 1), OUTSIDE);
    }
    for (int what : new int[] {-1, 2, Integer.MIN_VALUE, Integer.MAX_VALUE}) {
      Still.refused(x -> x.came(0, what), OUTSIDE);
      Still.refusedBare(x -> x.came(999, what), OUTSIDE);
    }
  }

  @Says("OUTSIDE; STATE: there is no OFFICE.\n\n## Promise 15: reading")
  static void promise14_noOffice() {
    Still.refusedBare(x -> x.came(0, 0), STATE);
    Still.refusedBare(x -> x.came(999, 1), STATE);
  }
}
