/** Promises 15 to 20: what was paid. */
public final class ReadingsTest {
  private static final int UNKNOWN = -1, OUTSIDE = -2, FULL = -4;
  private static final long LOST = Long.MIN_VALUE;

  public static void main(String[] args) {
    readingsAndBack();
    coversKindsSayings();
    theOthersCount();
    whatIsChangedMeanwhile();
    odds();
    Due.end();
  }

  private static void readingsAndBack() {
    ProphetCover x = Due.officeBy("w/5/2/9;m401;s206");
    Due.due("15: unknown first", x.reading(2, 8, 1000), UNKNOWN);
    Due.due("15: unknown", x.reading(-1, 0, 0), UNKNOWN);
    Due.due("15: set", x.reading(0, 8, 0), OUTSIDE);
    Due.due("15: set", x.reading(0, -1, 0), OUTSIDE);
    Due.due("15: v", x.reading(0, 0, 1000), OUTSIDE);
    Due.due("15: v", x.reading(0, 0, -1), OUTSIDE);
    Due.due("31: none yet", x.many(3), 0);
    for (int k = 0; k < 8; k++) {
      Due.due("15: number", x.reading(k % 2, 7, 999 - k), k);
      Due.due("31: readings", x.many(3), k + 1);
    }
    Due.due("15: full", x.reading(0, 0, 0), FULL);
    Due.due("15: outside ahead of full", x.reading(0, 8, 0), OUTSIDE);
    Due.due("15: unknown ahead of full", x.reading(2, 0, 0), UNKNOWN);
    Due.due("16: outside", x.back(9), OUTSIDE);
    Due.due("16: outside", x.back(-1), OUTSIDE);
    Due.due("16: none", x.back(0), 8);
    Due.due("16: three", x.back(3), 5);
    Due.due("16: outside", x.back(6), OUTSIDE);
    Due.due("15: numbered on", x.reading(0, 0, 0), 5);
    Due.due("16: all", x.back(6), 0);
    Due.due("16: outside", x.back(1), OUTSIDE);
    Due.due("15: from the start", x.reading(0, 0, 0), 0);
  }

  private static void areCoversAndKinds(ProphetCover x, int p, int covers, int kinds) {
    Due.due("17: covers(" + p + ")", x.covers(p), covers);
    Due.due("18: kinds(" + p + ")", x.kinds(p), kinds);
  }

  private static void areSayings(ProphetCover x, int p, int... due) {
    for (int e = 0; e < due.length; e++) {
      Due.due("19: sayings(" + p + ", " + e + ")", x.sayings(p, e), due[e]);
    }
  }

  private static void coversKindsSayings() {
    ProphetCover x = Due.officeBy("w/5/2/9;m401;s206;l131");
    areCoversAndKinds(x, 0, 1023, 7);
    areCoversAndKinds(x, 2, 1023, 7);
    areSayings(x, 0, 3, 3, 3, UNKNOWN);
    x.reading(0, 3, 4);
    areCoversAndKinds(x, 0, 1 << 4, 1);
    areSayings(x, 0, 2, 1, 3);
    areCoversAndKinds(x, 1, 1023, 7);
    areSayings(x, 1, 3, 3, 3);
    x.reading(1, 7, 6);
    areCoversAndKinds(x, 1, 1 << 2, 2);
    areSayings(x, 1, 1, 2, 2);
    x.reading(2, 7, 0);
    areCoversAndKinds(x, 2, 1023, 7);
    areSayings(x, 2, 2, 2, 2);
    x.back(1);
    x.reading(2, 7, 8);
    areCoversAndKinds(x, 2, 0, 0);
    areSayings(x, 2, 1, 1, 1);
    Due.due("17: unknown", x.covers(3), UNKNOWN);
    Due.due("17: unknown", x.covers(-1), UNKNOWN);
    Due.due("18: unknown", x.kinds(3), UNKNOWN);
    Due.due("18: unknown", x.kinds(-1), UNKNOWN);
    Due.due("19: unknown", x.sayings(3, 0), UNKNOWN);
    Due.due("19: unknown", x.sayings(-1, 0), UNKNOWN);
    Due.due("19: unknown", x.sayings(0, -1), UNKNOWN);

    // a sure one of cover 3 and a loud one of cover 1 get 4
    x = Due.officeBy("w/5/2;s301;l101");
    x.reading(0, 1, 4);
    x.reading(1, 1, 4);
    areCoversAndKinds(x, 0, 1 << 3, 2);
    areCoversAndKinds(x, 1, 1 << 1, 4);
    x.reading(0, 2, 0);
    areCoversAndKinds(x, 0, 1 << 3, 2);
    areSayings(x, 0, 2, 1);
    // nothing that is there was said: nothing is learned
    x = Due.officeBy("w/5/2;l928");
    x.reading(0, 3, 0);
    areCoversAndKinds(x, 0, 1023, 7);
    areSayings(x, 0, 1, 1);
    // the edges of covers: 0 and 9
    x = Due.officeBy("w/5/2;m001;l901");
    x.reading(0, 1, 0);
    areCoversAndKinds(x, 0, 1, 1);
    x.back(1);
    x.reading(1, 1, 20);
    areCoversAndKinds(x, 1, 1 << 9, 4);
  }

  private static void theOthersCount() {
    ProphetCover x = Due.officeBy("w/5/2;m401;s202");
    x.reading(0, 1, 4);
    x.reading(1, 2, 9);
    areCoversAndKinds(x, 0, 0, 0);
    areSayings(x, 0, 0, 0);
    areCoversAndKinds(x, 1, 1 << 8, 0);
    x.back(1);
    areCoversAndKinds(x, 0, 1 << 4, 1);
    // what was said makes a fraud of nobody but whom it is about
    x.reading(1, 2, 3);
    areSayings(x, 0, 2, 1);
    areSayings(x, 1, 1, 2);
  }

  private static void whatIsChangedMeanwhile() {
    ProphetCover x = Due.officeBy("w/5/2;m401");
    x.reading(0, 1, 4);
    x.say(0, 2);
    Due.due("15: say leaves readings", x.many(3), 1);
    areCoversAndKinds(x, 0, 0, 0);
    areSayings(x, 0, 0, 0);
    x.say(0, 0);
    areSayings(x, 0, 2, 0);
    x.fate(0, 0);
    areSayings(x, 0, 2, 0);
    Due.due("15: fate leaves readings", x.many(3), 1);
    Due.due("17: nothing changes", x.ofProphet(0, 1), 4);
    Due.due("18: nothing changes", x.ofProphet(0, 0), 0);
    Due.due("19: nothing changes", x.ofProphet(0, 2), 0);
  }

  private static void areOdds(ProphetCover x, int v, long upper, long lower) {
    Due.due("20: upper of " + v, x.odds(v, 0), upper);
    Due.due("20: lower of " + v, x.odds(v, 1), lower);
  }

  private static void odds() {
    // 0: .45, 1: .45, 10: .05, 11: .05
    ProphetCover x = Due.officeBy("w/5/1/0;m101;l402;l904");
    areOdds(x, 0, 1, 1);
    areOdds(x, 1, 11, 20);
    areOdds(x, 2, 1, 10);
    areOdds(x, 10, 1, 10);
    areOdds(x, 11, 1, 20);
    areOdds(x, 12, 0, 1);
    areOdds(x, 999, 0, 1);
    x.fate(0, 3);
    x.fate(1, 7);
    x.fate(2, 9);
    areOdds(x, 31, 189, 1000);
    Due.due("20: no office", new ProphetCover().odds(0, 0), LOST);
    Due.due("20: outside", x.odds(1000, 0), LOST);
    Due.due("20: outside", x.odds(-1, 0), LOST);
    Due.due("20: outside", x.odds(0, 2), LOST);
    Due.due("20: outside", x.odds(0, -1), LOST);
    areOdds(Due.officeBy("w/9/9/9/9/7;l915;s030"), 80, 6561, 10000);
    areOdds(Due.officeBy("w/9/9/9/9/7;l915;s030"), 84, 45927, 100000);
    areOdds(Due.officeBy("w/9;l901"), 1, 0, 1);
  }
}
