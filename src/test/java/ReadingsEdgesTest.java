/** The edges of promises 15 to 20: readings, what follows by them, odds. */
public final class ReadingsEdgesTest {
  private static final int UNKNOWN = -1, OUTSIDE = -2, FULL = -4;
  private static final long LOST = Long.MIN_VALUE;
  private static final String READING = "A READING: its number. UNKNOWN: PROPHET; OUTSIDE: set (of"
      + " EVENTS that there are), v (0 .. 999); FULL.";
  private static final String FOLLOWS = "All that follows: in place of what it is alone, by which all"
      + " READINGS are so: COVERS of a PROPHET: 0 .. 9; KINDS of a PROPHET: 0 .. 2; SAYINGS of a PROPHET"
      + " and an EVENT: 0 they did not say it, 1 they SAID it; as sets.";

  public static void main(String[] args) throws Exception {
    Edges.run(ReadingsEdgesTest.class);
  }

  private static ProphetCover withReadings(int count) {
    ProphetCover x = Due.officeBy(Still.FOUR);
    for (int k = 0; k < count; k++) {
      Due.due("number", x.reading(k % 4, 0, 0), k);
    }
    return x;
  }

  // ---- promise 15: reading

  @Says("READINGS, 8 at most, each numbered by how many there are ahead of it (the first one 0)")
  static void promise15_numberedFrom0To7() {
    ProphetCover x = withReadings(0);
    for (int k = 0; k < 8; k++) {
      Due.due("number", x.reading(0, 0, 0), k);
      Due.due("how many", x.many(3), k + 1);
    }
  }

  @Says("READINGS, 8 at most, each numbered by how many there are ahead of it (the first one 0)")
  static void promise15_numberedOnBehindThoseThatWereTakenBack() {
    ProphetCover x = withReadings(5);
    x.back(2);
    Due.due("number", x.reading(0, 0, 0), 3);
    x.back(4);
    Due.due("number", x.reading(0, 0, 0), 0);
  }

  @Says("READINGS, 8 at most, each numbered by how many there are ahead of it (the first one 0)")
  static void promise15_aNinthIsFullAndChangesNothing() {
    ProphetCover x = withReadings(8);
    Due.due("a ninth", x.reading(0, 1, 4), FULL);
    Due.due("a ninth that is not so", x.reading(0, 1, 5), FULL);
    Due.due("how many", x.many(3), 8);
    Due.due("covers", x.covers(0), 1023);
    x.back(1);
    Due.due("there is place again", x.reading(0, 1, 4), 7);
    Due.due("covers", x.covers(0), 1 << 4);
    Due.due("full again", x.reading(0, 0, 0), FULL);
  }

  @Says("as a set of EVENTS came, so much was PAID to a PROPHET.")
  static void promise15_oneThatIsNotSoIsTakenToo() {
    ProphetCover x = withReadings(0);
    Due.due("more than can be paid", x.reading(0, 7, 999), 0);
    Due.due("the same again", x.reading(0, 7, 999), 1);
    Due.due("another of the same", x.reading(0, 7, 998), 2);
    Due.due("nothing is so by that", x.covers(0), 0);
    Due.due("what is paid stays", x.paid(0, 7), 4);
  }

  @Says(READING)
  static void promise15_theEdgesOfSetAndV() {
    ProphetCover x = withReadings(0);
    Due.due("no event, nothing", x.reading(0, 0, 0), 0);
    Due.due("all events, the most", x.reading(3, 7, 999), 1);
    x = Due.officeBy("w/5/5/5/5/5;m401");
    Due.due("all five", x.reading(0, 31, 4), 0);
    Due.due("one beyond five", x.reading(0, 32, 4), OUTSIDE);
    x = Due.officeBy("w/5;m431");
    Due.due("one event", x.reading(0, 1, 0), 0);
    Due.due("one beyond one", x.reading(0, 2, 0), OUTSIDE);
  }

  @Says(READING)
  static void promise15_unknownProphetAheadOfAll() {
    for (int p : new int[] {-1, 4, Integer.MIN_VALUE, Integer.MAX_VALUE}) {
      Still.refused(x -> x.reading(p, 0, 0), UNKNOWN);
      Still.refused(x -> x.reading(p, 8, 1000), UNKNOWN);
    }
    Still.refusedBare(x -> x.reading(0, 0, 0), UNKNOWN);
    Due.due("ahead of full", withReadings(8).reading(4, 8, 1000), UNKNOWN);
  }

  @Says(READING)
  static void promise15_outsideSetAheadOfFull() {
    for (int set : new int[] {-1, 8, 31, Integer.MIN_VALUE, Integer.MAX_VALUE}) {
      Still.refused(x -> x.reading(0, set, 0), OUTSIDE);
      Due.due("ahead of full", withReadings(8).reading(0, set, 0), OUTSIDE);
    }
  }

  @Says(READING)
  static void promise15_outsideVAheadOfFull() {
    for (int v : new int[] {-1, 1000, Integer.MIN_VALUE, Integer.MAX_VALUE}) {
      Still.refused(x -> x.reading(0, 0, v), OUTSIDE);
      Due.due("ahead of full", withReadings(8).reading(0, 0, v), OUTSIDE);
    }
  }

  // ---- promise 16: back

  @Says("The last k READINGS (0 .. as many as there are) are taken back: how many are left. OUTSIDE.")
  static void promise16_from0ToAsManyAsThereAre() {
    for (int count = 0; count <= 8; count++) {
      for (int k = 0; k <= count; k++) {
        ProphetCover x = withReadings(count);
        Due.due(k + " of " + count, x.back(k), count - k);
        Due.due("how many", x.many(3), count - k);
      }
    }
  }

  @Says("The last k READINGS (0 .. as many as there are) are taken back: how many are left. OUTSIDE.")
  static void promise16_theLastOnes() {
    ProphetCover x = Due.officeBy("w/5/5;m401;m502");
    x.reading(0, 1, 3);
    x.reading(0, 1, 4);
    x.reading(1, 2, 6);
    Due.due("none is so", x.covers(0), 0);
    Due.due("two are left", x.back(1), 2);
    Due.due("the two are not so together", x.covers(0), 0);
    Due.due("one is left", x.back(1), 1);
    Due.due("it is the first", x.covers(0), 1 << 3);
    Due.due("none is left", x.back(1), 0);
    Due.due("all covers", x.covers(0), 1023);
  }

  @Says("The last k READINGS (0 .. as many as there are) are taken back: how many are left. OUTSIDE.")
  static void promise16_outside() {
    for (int k : new int[] {-1, 3, 8, Integer.MIN_VALUE, Integer.MAX_VALUE}) {
      Still.refused(x -> x.back(k), OUTSIDE);
    }
    Still.refusedBare(x -> x.back(1), OUTSIDE);
    Still.refusedBare(x -> x.back(-1), OUTSIDE);
    Due.due("none of none, without an office", new ProphetCover().back(0), 0);
    Due.due("nine of eight", withReadings(8).back(9), OUTSIDE);
  }

  // ---- promise 17: covers

  @Says(FOLLOWS)
  static void promise17_by0ReadingsAll() {
    ProphetCover x = withReadings(0);
    for (int p = 0; p < 4; p++) {
      Due.due("covers", x.covers(p), 1023);
    }
  }

  @Says(FOLLOWS)
  static void promise17_theLeastAndTheGreatestCover() {
    ProphetCover x = Due.officeBy("w/5/5;m501;s501;l501");
    for (int cover : new int[] {0, 1, 8, 9}) {
      int[] paid = {cover, cover + 1, 2 * cover + 2};
      for (int p = 0; p < 3; p++) {
        x.reading(p, 1, paid[p]);
        Due.due("covers(" + p + ")", x.covers(p), 1 << cover);
        x.back(1);
      }
    }
  }

  @Says(FOLLOWS)
  static void promise17_noneIsSo() {
    ProphetCover x = Due.officeBy("w/5/5;m501;s501;l501");
    int[][] never = {{10, 999}, {0, 11}, {0, 1, 3, 22}};
    for (int p = 0; p < 3; p++) {
      for (int v : never[p]) {
        x.reading(p, 1, v);
        Due.due(p + " is paid " + v, x.covers(p), 0);
        x.back(1);
      }
    }
  }

  @Says(FOLLOWS)
  static void promise17_allReadingsAreSoTogether() {
    ProphetCover x = Due.officeBy("w/5/5/5;m503;m504");
    x.reading(0, 1, 3);
    x.reading(0, 3, 6);
    x.reading(0, 4, 0);
    Due.due("of one cover", x.covers(0), 1 << 3);
    x.reading(0, 3, 7);
    Due.due("of none", x.covers(0), 0);
  }

  @Says(FOLLOWS)
  static void promise17_readingsOfOthersAreByWhatTheyAre() {
    ProphetCover x = Due.officeBy("w/5/5/5;m503;m604");
    x.reading(1, 4, 6);
    Due.due("the other's is so", x.covers(0), 1023);
    x.reading(1, 4, 5);
    Due.due("the other's is not so", x.covers(0), 0);
    Due.due("the other's own", x.covers(1), 0);
    x.back(2);
    x.reading(1, 4, 5);
    Due.due("the other's is not so", x.covers(0), 0);
    Due.due("but for another cover", x.covers(1), 1 << 5);
  }

  @Says(FOLLOWS)
  static void promise17_ofAFraudAllOrNone() {
    ProphetCover x = Due.officeBy("w/5/5;m503;m531");
    x.reading(0, 3, 0);
    x.reading(1, 1, 0);
    Due.due("paid nothing", x.covers(0), 1023);
    Due.due("paid nothing", x.covers(1), 1023);
    x.reading(0, 3, 10);
    Due.due("paid something", x.covers(0), 0);
    Due.due("the other, by that", x.covers(1), 0);
  }

  @Says("COVERS, as a set. UNKNOWN.")
  static void promise17_unknown() {
    for (int p : new int[] {-1, 4, Integer.MIN_VALUE, Integer.MAX_VALUE}) {
      Still.refused(x -> x.covers(p), UNKNOWN);
    }
    Still.refusedBare(x -> x.covers(0), UNKNOWN);
  }

  // ---- promise 18: kinds

  @Says(FOLLOWS)
  static void promise18_by0ReadingsAll() {
    ProphetCover x = withReadings(0);
    for (int p = 0; p < 4; p++) {
      Due.due("kinds", x.kinds(p), 7);
    }
  }

  @Says(FOLLOWS)
  static void promise18_eachKindByWhatItIsPaid() {
    ProphetCover x = Due.officeBy("w/5/5;m401;s401;l401");
    int[] paid = {4, 5, 10};
    for (int p = 0; p < 3; p++) {
      for (int kind = 0; kind < 3; kind++) {
        x.reading(p, 1, paid[kind]);
        Due.due("kinds(" + p + ")", x.kinds(p), 1 << kind);
        x.back(1);
      }
      x.reading(p, 1, 6);
      Due.due("none", x.kinds(p), 0);
      x.back(1);
    }
  }

  @Says(FOLLOWS)
  static void promise18_ofAFraudAndOfOneWhoSaidNothingAllOrNone() {
    ProphetCover x = Due.officeBy("w/5/5;m403;s400;l428");
    for (int p = 0; p < 3; p++) {
      x.reading(p, 3, 0);
      Due.due("paid nothing", x.kinds(p), 7);
    }
    x.reading(0, 3, 8);
    for (int p = 0; p < 3; p++) {
      Due.due("the fraud was paid", x.kinds(p), 0);
    }
  }

  @Says(FOLLOWS)
  static void promise18_readingsOfOthersAreByWhatTheyAre() {
    ProphetCover x = Due.officeBy("w/5/5;m401;s402");
    x.reading(1, 2, 4);
    Due.due("the other's is not so", x.kinds(0), 0);
    Due.due("but for another kind", x.kinds(1), 1);
    x.reading(0, 1, 5);
    Due.due("now neither", x.kinds(0), 0);
    Due.due("now neither", x.kinds(1), 0);
  }

  @Says("KINDS, as a set. UNKNOWN.")
  static void promise18_unknown() {
    for (int p : new int[] {-1, 4, Integer.MIN_VALUE, Integer.MAX_VALUE}) {
      Still.refused(x -> x.kinds(p), UNKNOWN);
    }
    Still.refusedBare(x -> x.kinds(0), UNKNOWN);
  }

  // ---- promise 19: sayings

  private static void areSayings(ProphetCover x, int p, int... due) {
    for (int e = 0; e < due.length; e++) {
      Due.due("sayings(" + p + ", " + e + ")", x.sayings(p, e), due[e]);
    }
  }

  @Says(FOLLOWS)
  static void promise19_by0ReadingsBoth() {
    ProphetCover x = withReadings(0);
    for (int p = 0; p < 4; p++) {
      areSayings(x, p, 3, 3, 3);
    }
  }

  @Says(FOLLOWS)
  static void promise19_didNotSayItSaidItEitherNeither() {
    ProphetCover x = Due.officeBy("w/5/5/5;m401");
    x.reading(0, 1, 4);
    areSayings(x, 0, 2, 3, 3);
    x.reading(0, 6, 0);
    areSayings(x, 0, 2, 1, 1);
    x.back(2);
    x.reading(0, 3, 8);
    areSayings(x, 0, 0, 2, 0);
    x.back(1);
    x.reading(0, 1, 0);
    areSayings(x, 0, 1, 0, 0);
    x.reading(0, 1, 4);
    areSayings(x, 0, 0, 0, 0);
  }

  @Says(FOLLOWS)
  static void promise19_byWhichTheyAreAFraud() {
    ProphetCover x = Due.officeBy("w/5/5;m401");
    x.reading(0, 3, 0);
    // without 0 nothing was said; with 1 all was: nothing is paid to a fraud
    areSayings(x, 0, 1, 2);
    x.say(0, 3);
    areSayings(x, 0, 2, 2);
    x.back(1);
    x.reading(0, 2, 4);
    areSayings(x, 0, 1, 0);
  }

  @Says(FOLLOWS)
  static void promise19_ofOneEvent() {
    ProphetCover x = Due.officeBy("w/5;m401;m400");
    x.reading(0, 1, 0);
    areSayings(x, 0, 3);
    areSayings(x, 1, 3);
    x.reading(1, 1, 4);
    areSayings(x, 0, 0);
    areSayings(x, 1, 0);
  }

  @Says(FOLLOWS)
  static void promise19_readingsOfOthersAreByWhatTheyAre() {
    ProphetCover x = Due.officeBy("w/5/5;m401;m402");
    x.reading(1, 1, 4);
    areSayings(x, 0, 0, 0);
    // had they said 0 as well, they would be a fraud
    areSayings(x, 1, 0, 0);
    x.say(1, 0);
    areSayings(x, 0, 0, 0);
    areSayings(x, 1, 2, 0);
  }

  @Says("SAYINGS, as a set. UNKNOWN: PROPHET, EVENT.")
  static void promise19_unknownProphet() {
    for (int p : new int[] {-1, 4, Integer.MIN_VALUE, Integer.MAX_VALUE}) {
      Still.refused(x -> x.sayings(p, 0), UNKNOWN);
      Still.refused(x -> x.sayings(p, 3), UNKNOWN);
    }
    Still.refusedBare(x -> x.sayings(0, 0), UNKNOWN);
  }

  @Says("SAYINGS, as a set. UNKNOWN: PROPHET, EVENT.")
  static void promise19_unknownEvent() {
    for (int e : new int[] {-1, 3, 4, 31, 32, Integer.MIN_VALUE, Integer.MAX_VALUE}) {
      Still.refused(x -> x.sayings(0, e), UNKNOWN);
    }
    ProphetCover x = Due.officeBy("w/5/5/5/5/5;m401");
    Due.due("the fifth", x.sayings(0, 4), 3);
    Due.due("a sixth", x.sayings(0, 5), UNKNOWN);
  }

  @Says(FOLLOWS)
  static void promise19_nothingIsChangedByAsking() {
    ProphetCover x = Still.standing();
    String ahead = Still.stateOf(x);
    x.covers(0);
    x.kinds(0);
    x.sayings(0, 2);
    Due.holds("all stays", Still.stateOf(x).equals(ahead));
  }

  @Says("CHANCE of an EVENT becomes v (0 .. 9)")
  static void promise15_fateAndSayLeaveReadings() {
    ProphetCover x = Due.officeBy("w/5/5;m401");
    x.reading(0, 1, 4);
    x.fate(0, 0);
    Due.due("readings", x.many(3), 1);
    Due.due("covers", x.covers(0), 1 << 4);
    x.say(0, 2);
    Due.due("readings", x.many(3), 1);
    Due.due("covers by what is said now", x.covers(0), 0);
    x.say(0, 1);
    Due.due("covers", x.covers(0), 1 << 4);
  }

  // ---- promise 20: odds

  private static void areOdds(ProphetCover x, int v, long upper, long lower) {
    Due.due("upper of " + v, x.odds(v, 0), upper);
    Due.due("lower of " + v, x.odds(v, 1), lower);
  }

  @Says("ODDS of v: the share by which what is PAID to all together in a YEAR is v at least.")
  static void promise20_vAtLeast() {
    // 0: .04, 3: .01, 10: .36, 11: .04, 13: .09, 14: .01, 21: .36, 24: .09
    ProphetCover x = Due.officeBy(Still.FOUR);
    long[][] due = {{0, 1, 1}, {1, 24, 25}, {3, 24, 25}, {4, 19, 20}, {10, 19, 20}, {11, 59, 100},
        {12, 11, 20}, {13, 11, 20}, {14, 23, 50}, {15, 9, 20}, {21, 9, 20}, {22, 9, 100}, {24, 9, 100},
        {25, 0, 1}, {999, 0, 1}};
    for (long[] d : due) {
      areOdds(x, (int) d[0], d[1], d[2]);
    }
  }

  @Says("ODDS of v: the share by which what is PAID to all together in a YEAR is v at least.")
  static void promise20_ofNothingAllAndOfTooMuchNone() {
    for (String text : new String[] {"w/0;m900", "w/9;l901", "w/9/9/9/9/9;l930;l915"}) {
      ProphetCover x = Due.officeBy(text);
      areOdds(x, 0, 1, 1);
      areOdds(x, 999, 0, 1);
    }
    ProphetCover x = Due.officeBy("w/9/9/9/9/9;l915;l915;l915;l915");
    areOdds(x, 320, 6561, 10000);
    areOdds(x, 321, 0, 1);
  }

  @Says("ODDS of v: the share by which what is PAID to all together in a YEAR is v at least.")
  static void promise20_aChanceOf0AddsNothing() {
    ProphetCover x = Due.officeBy("w/0/5;m901");
    areOdds(x, 9, 0, 1);
    x.fate(0, 1);
    areOdds(x, 9, 1, 10);
    x.fate(0, 9);
    areOdds(x, 9, 9, 10);
  }

  @Says("digit 0 .. 9 (CHANCE: so many of 10, each by itself)")
  static void promise20_eachEventByItself() {
    ProphetCover x = Due.officeBy("w/1/3/7/9/9;s915");
    areOdds(x, 40, 189, 10000);
    areOdds(Due.officeBy("w/9/9/9/9/9;s001;s002;s004;s008"), 4, 6561, 10000);
    areOdds(Due.officeBy("w/1/1/1/1/1;s001;s014;s020"), 1, 40951, 100000);
  }

  @Says("ODDS of v (0 .. 999; which 0 the upper, 1 the lower number). LOST: STATE: there is no OFFICE;"
      + " OUTSIDE.")
  static void promise20_lostOutsideVAndWhich() {
    for (int v : new int[] {-1, 1000, Integer.MIN_VALUE, Integer.MAX_VALUE}) {
      Still.refused(x -> x.odds(v, 0), LOST);
      Still.refused(x -> x.odds(v, 1), LOST);
    }
    for (int which : new int[] {-1, 2, Integer.MIN_VALUE, Integer.MAX_VALUE}) {
      Still.refused(x -> x.odds(0, which), LOST);
    }
  }

  @Says("ODDS of v (0 .. 999; which 0 the upper, 1 the lower number). LOST: STATE: there is no OFFICE;"
      + " OUTSIDE.")
  static void promise20_lostWithoutAnOffice() {
    Still.refusedBare(x -> x.odds(0, 0), LOST);
    Still.refusedBare(x -> x.odds(0, 1), LOST);
    Still.refusedBare(x -> x.odds(1000, 2), LOST);
  }
}
