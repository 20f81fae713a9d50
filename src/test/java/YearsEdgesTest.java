/** The edges of promises 7 to 9: what is paid, to one and to all, in a year and in years. */
public final class YearsEdgesTest {
  private static final int UNKNOWN = -1, OUTSIDE = -2, STATE = -3, NONE = -9;
  private static final int NULL = 1, CAST = 2, INDEX = 3;
  private static final String LINE = "UNKNOWN: SHEET; OUTSIDE: premium, lane, n (0 .. 40), what"
      + " (0 .. 3, 10 .. 13); STATE: there is no OFFICE; CAST; NULL; INDEX; OUTSIDE: a cell is no set"
      + " of EVENTS that there are.";

  public static void main(String[] args) throws Exception {
    Edges.run(YearsEdgesTest.class);
  }

  // ---- promise 7: paid

  @Says("PAYS for each EVENT that was SAID and came")
  static void promise07_forEachEventThatWasSaidAndCame() {
    ProphetCover x = Due.officeBy("w/0/5/9;m302");
    int[] due = {0, 0, 3, 3, 0, 0, 3, 3};
    for (int set = 0; set < 8; set++) {
      Due.due("said 2, came " + set, x.paid(0, set), due[set]);
    }
    x.say(0, 5);
    int[] dueOfTwo = {0, 3, 0, 3, 3, 6, 3, 6};
    for (int set = 0; set < 8; set++) {
      Due.due("said 5, came " + set, x.paid(0, set), dueOfTwo[set]);
    }
  }

  @Says("to a MODEST one COVER; to a SURE one 1 more; to a LOUD one twice what it is to a SURE one.")
  static void promise07_byEachKindAtTheEdgesOfCover() {
    ProphetCover x = Due.officeBy("w/5/5/5/5/5;m015;s015;l015");
    Due.due("modest 0", x.paid(0, 31), 0);
    Due.due("sure 0", x.paid(1, 31), 4);
    Due.due("loud 0", x.paid(2, 31), 8);
    x = Due.officeBy("w/5/5/5/5/5;m915;s915;l915");
    Due.due("modest 9", x.paid(0, 31), 36);
    Due.due("sure 9", x.paid(1, 31), 40);
    Due.due("loud 9", x.paid(2, 31), 80);
  }

  @Says("Who SAID all EVENTS that there are is a FRAUD: nothing is PAID to them.")
  static void promise07_nothingToAFraud() {
    ProphetCover x = Due.officeBy("w/5/5;l903;l931;l907;l902");
    for (int set = 0; set < 4; set++) {
      for (int p = 0; p < 3; p++) {
        Due.due("fraud " + p + ", came " + set, x.paid(p, set), 0);
      }
      Due.due("no fraud, came " + set, x.paid(3, set), set >= 2 ? 20 : 0);
    }
    x = Due.officeBy("w/5;l901");
    Due.due("of one event", x.paid(0, 1), 0);
    x = Due.officeBy("w/5/5/5/5/5;l931");
    Due.due("of five events", x.paid(0, 31), 0);
  }

  @Says("two digits 00 .. 31 (EVENTS that they SAID, as a set, be there such or not)")
  static void promise07_nothingForWhatIsNotThere() {
    ProphetCover x = Due.officeBy("w/5/5;l929;l928");
    Due.due("one that is there", x.paid(0, 3), 20);
    Due.due("none that is there", x.paid(1, 3), 0);
  }

  @Says("What is PAID to a PROPHET, as a set of EVENTS comes. UNKNOWN; OUTSIDE: set (of EVENTS that"
      + " there are).")
  static void promise07_outsideSetOfEventsThatThereAre() {
    for (int events = 1; events <= 5; events++) {
      int sets = 1 << events;
      ProphetCover x = Due.officeBy("w/1/2/3/4/5".substring(0, 1 + 2 * events) + ";m431;m400");
      Due.due("none", x.paid(1, 0), 0);
      Due.due("all", x.paid(1, sets - 1), 0);
      Due.due("one beyond", x.paid(0, sets), OUTSIDE);
      Due.due("one beyond", x.paid(1, sets), OUTSIDE);
    }
    for (int set : new int[] {-1, 8, 31, 32, Integer.MIN_VALUE, Integer.MAX_VALUE}) {
      Still.refused(x -> x.paid(0, set), OUTSIDE);
    }
  }

  @Says("What is PAID to a PROPHET, as a set of EVENTS comes. UNKNOWN; OUTSIDE: set (of EVENTS that"
      + " there are).")
  static void promise07_unknownProphetAheadOfSet() {
    for (int p : new int[] {-1, 4, Integer.MIN_VALUE, Integer.MAX_VALUE}) {
      Still.refused(x -> x.paid(p, 0), UNKNOWN);
      Still.refused(x -> x.paid(p, 8), UNKNOWN);
    }
    Still.refusedBare(x -> x.paid(0, 0), UNKNOWN);
  }

  // ---- promise 8: total

  @Says("What is PAID to all together. STATE: there is no OFFICE; OUTSIDE: set.")
  static void promise08_allTogether() {
    ProphetCover x = Due.officeBy(Still.FOUR);
    int[] due = {0, 11, 3, 14, 10, 21, 13, 24};
    for (int set = 0; set < 8; set++) {
      Due.due("total(" + set + ")", x.total(set), due[set]);
    }
    Due.due("the most of all", Due.officeBy("w/5/5/5/5/5;l915;l930;l923;l929").total(31), 320);
    Due.due("frauds alone", Due.officeBy("w/5;l901;l903").total(1), 0);
  }

  @Says("What is PAID to all together. STATE: there is no OFFICE; OUTSIDE: set.")
  static void promise08_noOfficeAheadOfSet() {
    for (int set : new int[] {0, 1, -1, 32, Integer.MIN_VALUE, Integer.MAX_VALUE}) {
      Still.refusedBare(x -> x.total(set), STATE);
    }
  }

  @Says("What is PAID to all together. STATE: there is no OFFICE; OUTSIDE: set.")
  static void promise08_outsideSet() {
    for (int set : new int[] {-1, 8, 31, 32, Integer.MIN_VALUE, Integer.MAX_VALUE}) {
      Still.refused(x -> x.total(set), OUTSIDE);
    }
    ProphetCover x = Due.officeBy("w/5/5/5/5/5;l930");
    Due.due("all five", x.total(31), 80);
    Due.due("one beyond five", x.total(32), OUTSIDE);
  }

  // ---- promise 9: years

  /** At sheet 0, as bytes; the office of FOUR is paid 8 a year for each one of premium. */
  private static ProphetCover withYears(int... sets) {
    ProphetCover x = Due.officeBy(Still.FOUR);
    Due.row(x, 0, 0, sets);
    return x;
  }

  private static void areYears(ProphetCover x, int premium, int i, int n, int... due) {
    for (int what = 0; what < 4; what++) {
      Due.due("years at " + premium + ", " + n + " from " + i + ", what " + what,
          x.years(premium, 0, 0, i, n, what), due[what]);
    }
    for (int p = 0; p < 4; p++) {
      Due.due("years at " + premium + ", " + n + " from " + i + ", prophet " + p,
          x.years(premium, 0, 0, i, n, 10 + p), due[4 + p]);
    }
  }

  @Says("what the OFFICE has behind them (what 0), BROKEN (1; NONE), all that it PAYS (2), the most that"
      + " it PAYS in a YEAR (3), what is PAID to PROPHET p in all (10 and p; NONE: there is no such"
      + " PROPHET)")
  static void promise09_everyWhatOfSomeYears() {
    // pays 21, 3, 24, 0
    ProphetCover x = withYears(5, 2, 7, 0);
    areYears(x, 1, 0, 4, 32 - 48, 0, 48, 24, 8, 12, 0, 28);
    areYears(x, 2, 0, 4, 64 - 48, 0, 48, 24, 8, 12, 0, 28);
    areYears(x, 3, 0, 4, 96 - 48, NONE, 48, 24, 8, 12, 0, 28);
    areYears(x, 1, 1, 2, 16 - 27, 1, 27, 24, 4, 9, 0, 14);
    areYears(x, 0, 3, 1, 0, NONE, 0, 0, 0, 0, 0, 0);
  }

  @Says("YEARS of n such cells at a PREMIUM (0 .. 9)")
  static void promise09_theCellsAheadOfIAndBehindNAreNoYears() {
    ProphetCover x = withYears(7, 7, 5, 7, 7);
    areYears(x, 2, 2, 1, 16 - 21, 0, 21, 21, 4, 3, 0, 14);
    areYears(x, 9, 2, 1, 72 - 21, NONE, 21, 21, 4, 3, 0, 14);
    areYears(x, 9, 2, 0, 0, NONE, 0, 0, 0, 0, 0, 0);
    Due.row(x, 0, 0, 8, 5, 8);
    areYears(x, 2, 1, 1, 16 - 21, 0, 21, 21, 4, 3, 0, 14);
  }

  @Says("what the OFFICE has (0 at first): more by PREMIUMS, less by what it PAYS.")
  static void promise09_noYearsAtAll() {
    areYears(withYears(), 9, 0, 0, 0, NONE, 0, 0, 0, 0, 0, 0);
    areYears(withYears(7, 7), 9, 2, 0, 0, NONE, 0, 0, 0, 0, 0, 0);
  }

  @Says("BROKEN: the first YEAR (from 0 on) behind which it has less than 0.")
  static void promise09_behindAYearWithJust0ItIsNotBroken() {
    ProphetCover x = Due.officeBy("w/5/5;m301");
    Due.row(x, 0, 0, 1, 0, 1, 1);
    Due.due("has 0", x.years(3, 0, 0, 0, 1, 0), 0);
    Due.due("not broken", x.years(3, 0, 0, 0, 1, 1), NONE);
    Due.due("has -1", x.years(2, 0, 0, 0, 1, 0), -1);
    Due.due("broken", x.years(2, 0, 0, 0, 1, 1), 0);
    Due.due("has 0 behind all", x.years(2, 0, 0, 1, 3, 0), 0);
    Due.due("never broken", x.years(2, 0, 0, 1, 2, 1), NONE);
  }

  @Says("BROKEN: the first YEAR (from 0 on) behind which it has less than 0.")
  static void promise09_theFirstBrokenYearStaysThoughItHasMoreAgain() {
    ProphetCover x = Due.officeBy("w/5/5;m301");
    Due.row(x, 0, 0, 0, 1, 1, 0, 0, 1, 1, 1);
    // at 1 a year: 1, -1, -3, -2, -1, -3, -5, -7
    Due.due("the second", x.years(1, 0, 0, 0, 8, 1), 1);
    // at 2 a year: 2, 1, 0, 2, 4, 3, 2, 1
    Due.due("never", x.years(2, 0, 0, 0, 8, 1), NONE);
    // from the third on, at 2 a year: -1, 1, 3, 2, 1, 0
    Due.due("at once", x.years(2, 0, 0, 2, 6, 1), 0);
    Due.due("has more again", x.years(2, 0, 0, 2, 5, 0), 1);
  }

  @Says("at a PREMIUM each PROPHET pays in each YEAR so much for each EVENT (that there is) that they SAID")
  static void promise09_premiumsForEventsThatThereAreAlone() {
    ProphetCover x = Due.officeBy("w/5/5;m429;s028");
    Due.row(x, 0, 0, 0, 0, 0);
    Due.due("one event, three years", x.years(5, 0, 0, 0, 3, 0), 15);
    Due.due("none at 0", x.years(0, 0, 0, 0, 3, 0), 0);
  }

  @Says("at a PREMIUM each PROPHET pays in each YEAR so much for each EVENT (that there is) that they SAID")
  static void promise09_aFraudPaysPremiumsAndIsPaidNothing() {
    ProphetCover x = Due.officeBy("w/5/5;m431");
    Due.row(x, 0, 0, 3, 3);
    Due.due("has", x.years(9, 0, 0, 0, 2, 0), 36);
    Due.due("pays", x.years(9, 0, 0, 0, 2, 2), 0);
    Due.due("to the fraud", x.years(9, 0, 0, 0, 2, 10), 0);
  }

  @Says("what is PAID to PROPHET p in all (10 and p; NONE: there is no such PROPHET)")
  static void promise09_noneOfAProphetThatThereIsNot() {
    for (int prophets = 1; prophets <= 4; prophets++) {
      ProphetCover x = Due.officeBy("w/5/5" + ";m401;m401;m401;m401".substring(0, 5 * prophets));
      Due.row(x, 0, 0, 1);
      for (int p = 0; p < 4; p++) {
        Due.due("prophet " + p + " of " + prophets, x.years(0, 0, 0, 0, 1, 10 + p),
            p < prophets ? 4 : NONE);
      }
      Due.due("fault()", x.fault(), 0);
    }
  }

  @Says(LINE)
  static void promise09_refusalsAndFaultsAreAheadOfNone() {
    ProphetCover x = Due.officeBy("w/5/5;m401");
    Due.row(x, 0, 0, 1, 4);
    Due.due("cell", x.years(0, 0, 0, 0, 2, 13), OUTSIDE);
    Due.due("index", x.years(0, 0, 0, 0, 3, 13), -13);
    Due.due("null", x.years(0, 1, 0, 0, 1, 13), -11);
    Due.due("cast", x.years(0, 0, 1, 0, 1, 13), -12);
    Due.due("premium", x.years(10, 0, 0, 0, 1, 13), OUTSIDE);
    Due.due("sheet", x.years(0, 4, 0, 0, 1, 13), UNKNOWN);
  }

  @Says(LINE)
  static void promise09_unknownSheet() {
    for (int k : new int[] {-1, 4, Integer.MIN_VALUE, Integer.MAX_VALUE}) {
      Still.cleared(x -> x.years(0, k, 0, 0, 1, 0), UNKNOWN);
      Still.cleared(x -> x.years(10, k, 3, -1, 41, 4), UNKNOWN);
      Still.clearedBare(x -> x.years(0, k, 0, 0, 1, 0), UNKNOWN);
    }
  }

  @Says(LINE)
  static void promise09_premium0To9() {
    ProphetCover x = withYears(0);
    for (int premium = 0; premium <= 9; premium++) {
      Due.due("has at " + premium, x.years(premium, 0, 0, 0, 1, 0), 8 * premium);
    }
    for (int premium : new int[] {-1, 10, Integer.MIN_VALUE, Integer.MAX_VALUE}) {
      Still.cleared(s -> s.years(premium, 0, 0, 0, 1, 0), OUTSIDE);
      Still.clearedBare(s -> s.years(premium, 2, 0, 0, 1, 0), OUTSIDE);
    }
  }

  @Says(LINE)
  static void promise09_outsideLane() {
    for (int lane : new int[] {-1, 3, Integer.MIN_VALUE, Integer.MAX_VALUE}) {
      Still.cleared(x -> x.years(0, 0, lane, 0, 1, 0), OUTSIDE);
      Still.clearedBare(x -> x.years(0, 2, lane, 0, 1, 0), OUTSIDE);
    }
  }

  @Says(LINE)
  static void promise09_n0To40() {
    ProphetCover x = Due.officeBy("w/5/5;m401");
    x.sheet(0, 0, 60);
    for (int i = 0; i < 60; i++) {
      x.put(0, i, i % 2);
    }
    Due.due("none", x.years(0, 0, 0, 0, 0, 2), 0);
    Due.due("one", x.years(0, 0, 0, 1, 1, 2), 4);
    Due.due("forty", x.years(0, 0, 0, 0, 40, 2), 80);
    Due.due("forty at the end", x.years(1, 0, 0, 20, 40, 0), -40);
    Due.due("forty-one", x.years(0, 0, 0, 0, 41, 2), OUTSIDE);
    for (int n : new int[] {-1, 41, Integer.MIN_VALUE, Integer.MAX_VALUE}) {
      Still.cleared(s -> s.years(0, 0, 0, 0, n, 0), OUTSIDE);
      Still.clearedBare(s -> s.years(0, 2, 1, 0, n, 0), OUTSIDE);
    }
  }

  @Says(LINE)
  static void promise09_what0To3And10To13() {
    int[] outside = {-1, 4, 5, 9, 14, 15, Integer.MIN_VALUE, Integer.MAX_VALUE};
    for (int what : outside) {
      Still.cleared(x -> x.years(0, 0, 0, 0, 1, what), OUTSIDE);
      Still.clearedBare(x -> x.years(0, 2, 1, 0, 1, what), OUTSIDE);
    }
    ProphetCover x = withYears(7);
    areYears(x, 0, 0, 1, -24, 0, 24, 24, 4, 6, 0, 14);
  }

  @Says(LINE)
  static void promise09_noOfficeAheadOfFaultsAndCells() {
    Still.clearedBare(x -> x.years(0, 0, 0, 0, 1, 0), STATE);
    Still.clearedBare(x -> x.years(0, 2, 0, 0, 1, 0), STATE);
    Still.clearedBare(x -> x.years(0, 0, 1, 0, 1, 0), STATE);
    Still.clearedBare(x -> x.years(0, 0, 0, -1, 40, 0), STATE);
    Still.clearedBare(x -> x.years(0, 0, 0, 4, 1, 0), STATE);
  }

  @Says(LINE)
  static void promise09_castNullIndexInTheirOrder() {
    Still.comesTo(NULL, x -> x.years(0, 2, 0, 0, 0, 0));
    Still.comesTo(NULL, x -> x.years(0, 2, 2, -1, 40, 13));
    Still.comesTo(CAST, x -> x.years(0, 0, 1, 0, 0, 0));
    Still.comesTo(CAST, x -> x.years(0, 0, 2, -1, 40, 0));
    Still.comesTo(CAST, x -> x.years(0, 1, 0, 0, 1, 0));
    Still.comesTo(INDEX, x -> x.years(0, 0, 0, -1, 1, 0));
    Still.comesTo(INDEX, x -> x.years(0, 0, 0, 5, 1, 0));
    Still.comesTo(INDEX, x -> x.years(0, 0, 0, 0, 6, 0));
    Still.comesTo(INDEX, x -> x.years(0, 0, 0, 6, 0, 0));
    Still.comesTo(INDEX, x -> x.years(0, 0, 0, Integer.MAX_VALUE, 40, 0));
    Still.comesTo(INDEX, x -> x.years(0, 0, 0, Integer.MIN_VALUE, 0, 0));
  }

  @Says(LINE)
  static void promise09_aCellIsNoSetOfEventsThatThereAre() {
    Still.cleared(x -> x.years(0, 0, 0, 3, 1, 0), OUTSIDE);
    Still.cleared(x -> x.years(0, 0, 0, 4, 1, 0), OUTSIDE);
    Still.cleared(x -> x.years(0, 0, 0, 0, 4, 10), OUTSIDE);
    Still.cleared(x -> x.years(0, 1, 1, 0, 1, 0), OUTSIDE);
    ProphetCover x = Still.standing();
    Due.due("cells that are such sets", x.years(0, 0, 0, 0, 3, 2), 35);
    Due.due("the greatest such set", x.years(0, 0, 0, 2, 1, 2), 24);
    Due.due("index ahead of a cell", x.years(0, 0, 0, 0, 6, 2), -13);
  }

  @Says("YEARS of n such cells at a PREMIUM (0 .. 9)")
  static void promise09_cellsOfEveryLane() {
    for (int lane = 0; lane < 3; lane++) {
      ProphetCover x = Due.officeBy("w/1/2/3/4/5;m401;l016");
      Due.row(x, 2, lane, -1, 31, 16, 0, 32);
      Due.due("sets of five", x.years(1, 2, lane, 1, 3, 2), 8);
      Due.due("has", x.years(1, 2, lane, 1, 3, 0), -2);
      Due.due("below 0", x.years(1, 2, lane, 0, 3, 2), OUTSIDE);
      Due.due("beyond 31", x.years(1, 2, lane, 1, 4, 2), OUTSIDE);
    }
    ProphetCover x = Due.officeBy("w/1/2/3/4/5;m401");
    Due.row(x, 2, 2, 1 << 16, 256, Integer.MIN_VALUE);
    for (int i = 0; i < 3; i++) {
      Due.due("an int is looked at whole", x.years(0, 2, 2, i, 1, 0), OUTSIDE);
    }
  }
}
