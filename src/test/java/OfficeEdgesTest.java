/** The edges of promises 1 to 6: a new object, texts, chances, prophets, what they said. */
public final class OfficeEdgesTest {
  private static final int UNKNOWN = -1, OUTSIDE = -2, STATE = -3;
  private static final long LOST = Long.MIN_VALUE;
  private static final int NULL = 1, CAST = 2, INDEX = 3, SIZE = 4;

  public static void main(String[] args) throws Exception {
    Edges.run(OfficeEdgesTest.class);
  }

  // ---- promise 1: a new object

  @Says("`ProphetCover()`: No OFFICE (no EVENTS, PROPHETS), SHEETS have nothing.")
  static void promise01_noEventsNoProphets() {
    ProphetCover x = new ProphetCover();
    for (int what = 0; what < 4; what++) {
      Due.due("many(" + what + ")", x.many(what), 0);
    }
    Due.due("chance", x.chance(0), UNKNOWN);
    Due.due("fate", x.fate(0, 0), UNKNOWN);
    Due.due("ofProphet", x.ofProphet(0, 0), UNKNOWN);
    Due.due("say", x.say(0, 0), UNKNOWN);
    Due.due("paid", x.paid(0, 0), UNKNOWN);
    Due.due("fair", x.fair(0, 0), LOST);
    Due.due("safe", x.safe(0), UNKNOWN);
    Due.due("best", x.best(0, 0), UNKNOWN);
    Due.due("reading", x.reading(0, 0, 0), UNKNOWN);
    Due.due("covers", x.covers(0), UNKNOWN);
    Due.due("kinds", x.kinds(0), UNKNOWN);
    Due.due("sayings", x.sayings(0, 0), UNKNOWN);
    Due.due("tell", x.tell(0), UNKNOWN);
    Due.due("hear", x.hear(0), UNKNOWN);
    Due.due("as", x.as(0, 0), UNKNOWN);
  }

  @Says("`ProphetCover()`: No OFFICE (no EVENTS, PROPHETS), SHEETS have nothing.")
  static void promise01_noOffice() {
    ProphetCover x = new ProphetCover();
    Due.due("total", x.total(0), STATE);
    Due.due("years", x.years(0, 0, 0, 0, 0, 0), STATE);
    Due.due("hold", x.hold(0), STATE);
    Due.due("came", x.came(0, 0), STATE);
    Due.due("odds", x.odds(0, 0), LOST);
    Due.due("back of none", x.back(0), 0);
    Due.due("back of one", x.back(1), OUTSIDE);
  }

  @Says("`ProphetCover()`: No OFFICE (no EVENTS, PROPHETS), SHEETS have nothing.")
  static void promise01_sheetsHaveNothing() {
    ProphetCover x = new ProphetCover();
    for (int k = 0; k < 4; k++) {
      Due.due("put", x.put(k, 0, 1), -11);
      Due.due("office", x.office(k, 0, 0, 0), -11);
      Due.due("copy", x.copy(k, 0, k, 0, 0), -11);
      Due.due("lose", x.lose(k), 0);
    }
  }

  @Says("`ProphetCover()`: No OFFICE (no EVENTS, PROPHETS), SHEETS have nothing.")
  static void promise01_aNewObjectHasNothingOfAnother() {
    ProphetCover other = Still.standing();
    other.put(2, 0, 0);
    ProphetCover x = new ProphetCover();
    Due.due("fault", x.fault(), 0);
    Due.due("trace", x.trace(), 0);
    Due.due("prophets", x.many(0), 0);
    Due.due("sheet", x.lose(0), 0);
    Due.office(x, 0, 0, "w/5;m401");
    Due.due("the other's prophets", other.many(0), 4);
    Due.due("the other's row", other.cell(0, 2, 0), 7);
  }

  // ---- promise 2: the text and its first fault

  private static void isTaken(String text, int prophets, int events) {
    for (int lane = 0; lane < 3; lane++) {
      ProphetCover x = new ProphetCover();
      Due.due("the text " + text + " of lane " + lane, Due.office(x, lane, lane, text), prophets);
      Due.due("events of " + text, x.many(1), events);
      Due.due("prophets of " + text, x.many(0), prophets);
    }
  }

  private static void faultAt(int place, String text) {
    for (int lane = 0; lane < 3; lane++) {
      ProphetCover x = new ProphetCover();
      Due.due("the text " + text + " of lane " + lane, Due.office(x, lane, lane, text), -100 - place);
      Due.due("no office by " + text, x.total(0), STATE);
    }
  }

  @Says("An OFFICE by a TEXT: w, then")
  static void promise02_aTextBeginsByW() {
    for (String first : new String[] {"v", "x", "W", "/", ";", "m", "0"}) {
      faultAt(0, first + "/5;m401");
    }
    faultAt(0, "/5;m401");
    faultAt(1, "ww/5;m401");
    faultAt(1, "w w/5;m401");
  }

  @Says("then 1 to 5 EVENTS, numbered from 0 on")
  static void promise02_noEventIsTooFew() {
    faultAt(1, "w;m401");
    faultAt(1, "wm401");
    faultAt(1, "w5;m401");
  }

  @Says("then 1 to 5 EVENTS, numbered from 0 on")
  static void promise02_oneToFiveEvents() {
    isTaken("w/1;m401", 1, 1);
    isTaken("w/1/2;m401", 1, 2);
    isTaken("w/1/2/3;m401", 1, 3);
    isTaken("w/1/2/3/4;m401", 1, 4);
    isTaken("w/1/2/3/4/5;m401", 1, 5);
    ProphetCover x = Due.officeBy("w/1/2/3/4/5;m401");
    for (int e = 0; e < 5; e++) {
      Due.due("numbered from 0 on", x.chance(e), e + 1);
    }
    Due.due("a sixth", x.chance(5), UNKNOWN);
  }

  @Says("the / of a sixth EVENT, the ; of a fifth PROPHET")
  static void promise02_theFirstFaultIsTheSlashOfASixthEvent() {
    faultAt(11, "w/1/2/3/4/5/6;m401");
    faultAt(11, "w/1/2/3/4/5/");
    faultAt(11, "w/1/2/3/4/5/;m401");
  }

  @Says("each: / and a digit 0 .. 9 (CHANCE: so many of 10, each by itself)")
  static void promise02_aChanceIsADigit0To9() {
    for (int v = 0; v <= 9; v++) {
      Due.due("chance " + v, Due.officeBy("w/" + v + ";m401").chance(0), v);
    }
    for (String next : new String[] {"/", ":", ";", "w", "m", "-", " "}) {
      faultAt(2, "w/" + next + ";m401");
      faultAt(4, "w/5/" + next + ";m401");
    }
    faultAt(3, "w/10;m401");
    faultAt(3, "w/5m401");
  }

  @Says("then 1 to 4 PROPHETS, numbered from 0 on, each: ;")
  static void promise02_oneToFourProphets() {
    isTaken("w/5;m101", 1, 1);
    isTaken("w/5;m101;m201", 2, 1);
    isTaken("w/5;m101;m201;m301", 3, 1);
    isTaken("w/5;m101;m201;m301;m401", 4, 1);
    ProphetCover x = Due.officeBy("w/5;m101;m201;m301;m401");
    for (int p = 0; p < 4; p++) {
      Due.due("numbered from 0 on", x.ofProphet(p, 1), p + 1);
    }
    Due.due("a fifth", x.ofProphet(4, 1), UNKNOWN);
  }

  @Says("the / of a sixth EVENT, the ; of a fifth PROPHET")
  static void promise02_theFirstFaultIsTheSemicolonOfAFifthProphet() {
    faultAt(23, "w/5;m101;m201;m301;m401;m501");
    faultAt(23, "w/5;m101;m201;m301;m401;");
    faultAt(23, "w/5;m101;m201;m301;m401;x");
    faultAt(31, "w/1/2/3/4/5;m101;m201;m301;m401;m501");
  }

  @Says("each: ; and a letter, a digit 0 .. 9 (COVER), two digits 00 .. 31")
  static void promise02_aLetterIsOneOfThree() {
    String letters = "msl";
    for (int kind = 0; kind < 3; kind++) {
      ProphetCover x = Due.officeBy("w/5;" + letters.charAt(kind) + "401");
      Due.due("kind of " + letters.charAt(kind), x.ofProphet(0, 0), kind);
    }
    for (String other : new String[] {"k", "n", "r", "t", "M", "S", "L", "w", ";", "/", "4", "0"}) {
      faultAt(4, "w/5;" + other + "401");
      faultAt(9, "w/5;m401;" + other + "401");
    }
  }

  @Says("each: ; and a letter, a digit 0 .. 9 (COVER), two digits 00 .. 31")
  static void promise02_aCoverIsADigit0To9() {
    for (int cover = 0; cover <= 9; cover++) {
      Due.due("cover", Due.officeBy("w/5;m" + cover + "01").ofProphet(0, 1), cover);
    }
    for (String other : new String[] {"/", ":", ";", "m"}) {
      faultAt(5, "w/5;m" + other + "01");
    }
  }

  @Says("two digits 00 .. 31 (EVENTS that they SAID, as a set, be there such or not)")
  static void promise02_whatWasSaidIs00To31BeThereSuchOrNot() {
    for (int said = 0; said <= 31; said++) {
      String digits = (said < 10 ? "0" : "") + said;
      Due.due("said", Due.officeBy("w/5;m4" + digits).ofProphet(0, 2), said);
      Due.due("said", Due.officeBy("w/5/5/5/5/5;m4" + digits).ofProphet(0, 2), said);
    }
  }

  @Says("of two digits the first, if none begins so, else the second")
  static void promise02_ofTwoDigitsTheFirstIfNoneBeginsSo() {
    for (char first = '4'; first <= '9'; first++) {
      faultAt(6, "w/5;m4" + first + "0");
    }
    faultAt(6, "w/5;m4/0");
    faultAt(6, "w/5;m4:0");
    faultAt(6, "w/5;m4;0");
    faultAt(6, "w/5;m4x1");
  }

  @Says("of two digits the first, if none begins so, else the second")
  static void promise02_ofTwoDigitsElseTheSecond() {
    for (char second = '2'; second <= '9'; second++) {
      faultAt(7, "w/5;m43" + second);
    }
    for (int first = 0; first <= 3; first++) {
      faultAt(7, "w/5;m4" + first + "/");
      faultAt(7, "w/5;m4" + first + ":");
      faultAt(7, "w/5;m4" + first + ";");
    }
    isTaken("w/5;m430", 1, 1);
    isTaken("w/5;m431", 1, 1);
    isTaken("w/5;m429", 1, 1);
  }

  @Says("the place (from 0 on) of the first code with which no TEXT goes on")
  static void promise02_noTextGoesOnBehindTheTwoDigits() {
    for (String next : new String[] {"0", "m", "/", "w", ":", " "}) {
      faultAt(8, "w/5;m401" + next);
      faultAt(8, "w/5;m401" + next + ";m401");
    }
  }

  @Says("how many codes there are, if it just ends too soon")
  static void promise02_aTextThatEndsTooSoon() {
    String text = "w/1/2/3/4/5;m101;m201;m301;m401";
    for (int n = 0; n <= text.length(); n++) {
      if (n == 16 || n == 21 || n == 26 || n == 31) {
        isTaken(text.substring(0, n), n / 5 - 2, 5);
      } else {
        faultAt(n, text.substring(0, n));
      }
    }
  }

  @Says("how many codes there are, if it just ends too soon")
  static void promise02_whatStandsBehindTheCellsIsNoPartOfTheText() {
    ProphetCover x = new ProphetCover();
    Due.row(x, 0, 0, "w/5;m401".chars().toArray());
    for (int n = 0; n < 8; n++) {
      Due.due("the first " + n, x.office(0, 0, 0, n), -100 - n);
    }
    Due.due("all", x.office(0, 0, 0, 8), 1);
    Due.row(x, 0, 0, "w/5;m401xx".chars().toArray());
    Due.due("but what is behind", x.office(0, 0, 0, 8), 1);
  }

  @Says("(Codes: w 119, m 109, s 115, l 108, / 47, ; 59, digits 48 .. 57.)")
  static void promise02_codes() {
    ProphetCover x = new ProphetCover();
    Due.row(x, 0, 2, 119, 47, 48, 47, 57, 59, 109, 48, 48, 48, 59, 115, 57, 50, 57, 59, 108, 53, 51, 49);
    Due.due("office", x.office(0, 2, 0, 20), 3);
    Due.due("48", x.chance(0), 0);
    Due.due("57", x.chance(1), 9);
    for (int kind = 0; kind < 3; kind++) {
      Due.due("kind", x.ofProphet(kind, 0), kind);
    }
    Due.due("said", x.ofProphet(1, 2), 29);
  }

  @Says("(Codes: w 119, m 109, s 115, l 108, / 47, ; 59, digits 48 .. 57.)")
  static void promise02_aCodeIsTheWholeCell() {
    int[] codes = "w/5;m401".chars().toArray();
    for (int place = 0; place < 8; place++) {
      for (int more : new int[] {256, 65536, -256, Integer.MIN_VALUE}) {
        ProphetCover x = new ProphetCover();
        Due.row(x, 0, 2, codes);
        x.put(0, place, codes[place] + more);
        Due.due("an int at " + place, x.office(0, 2, 0, 8), -100 - place);
        Due.row(x, 1, 0, codes);
        x.put(1, place, codes[place] + more);
        Due.due("a byte at " + place, x.office(1, 0, 0, 8), 1);
      }
    }
  }

  @Says("Kinds: 0 MODEST (m); 1 SURE (s), a MODEST; 2 LOUD (l), a SURE.")
  static void promise02_kinds() {
    ProphetCover x = Due.officeBy("w/5;m401;s401;l401");
    int[][] due = {{1, -12, -12}, {1, 1, -12}, {1, 1, 1}};
    for (int p = 0; p < 3; p++) {
      Due.due("kind", x.ofProphet(p, 0), p);
      for (int kind = 0; kind < 3; kind++) {
        Due.due("as(" + p + ", " + kind + ")", x.as(p, kind), due[p][kind]);
      }
    }
  }

  @Says("A TEXT that is taken makes all anew, but for SHEETS and TRACE: no READINGS.")
  static void promise02_aTextThatIsTakenMakesAllAnew() {
    ProphetCover x = Still.standing();
    x.fate(0, 1);
    x.say(0, 7);
    Due.due("office", Due.office(x, 2, 1, "w/6;s302"), 1);
    Due.due("prophets", x.many(0), 1);
    Due.due("events", x.many(1), 1);
    Due.due("frauds", x.many(2), 0);
    Due.due("chance", x.chance(0), 6);
    Due.due("no other event", x.chance(1), UNKNOWN);
    Due.due("no other prophet", x.tell(1), UNKNOWN);
    Due.due("kind", x.ofProphet(0, 0), 1);
    Due.due("cover", x.ofProphet(0, 1), 3);
    Due.due("said", x.ofProphet(0, 2), 2);
    Due.due("office again", Due.office(x, 2, 1, Still.FOUR), 4);
    Due.due("events again", x.many(1), 3);
    Due.due("what fate made is gone", x.chance(0), 5);
    Due.due("what was made said is gone", x.ofProphet(0, 2), 1);
  }

  @Says("A TEXT that is taken makes all anew, but for SHEETS and TRACE: no READINGS.")
  static void promise02_aTextThatIsTakenLeavesNoReadings() {
    ProphetCover x = Still.standing();
    Due.due("readings", x.many(3), 2);
    Due.due("covers by them", x.covers(0), 1 << 4);
    Due.due("the same text", x.office(3, 0, 0, 27), 4);
    Due.due("no readings", x.many(3), 0);
    Due.due("covers by none", x.covers(0), 1023);
    Due.due("numbered from 0 on", x.reading(0, 0, 0), 0);
  }

  @Says("A TEXT that is taken makes all anew, but for SHEETS and TRACE: no READINGS.")
  static void promise02_aTextThatIsTakenLeavesSheetsAndTrace() {
    ProphetCover x = Still.standing();
    int trace = x.trace();
    Due.holds("something was told", trace != 0);
    Due.due("office", x.office(3, 0, 0, 27), 4);
    Due.due("trace", x.trace(), trace);
    Due.due("a byte", x.cell(0, 2, 0), 7);
    Due.due("a short", x.cell(1, 0, 1), 300);
    Due.due("the text", x.cell(3, 26, 0), '5');
    Due.due("a sheet that has nothing", x.lose(2), 0);
  }

  @Says("A TEXT that is taken makes all anew, but for SHEETS and TRACE: no READINGS.")
  static void promise02_aTextThatIsNotTakenChangesNothing() {
    for (int n = 0; n < 27; n++) {
      if (n != 12 && n != 17 && n != 22) {
        ProphetCover x = Still.standing();
        String ahead = Still.stateOf(x);
        Due.due("the first " + n, x.office(3, 0, 0, n), -100 - n);
        Due.holds("all stays", Still.stateOf(x).equals(ahead));
      }
    }
  }

  @Says("An OFFICE by a TEXT of n cells of a SHEET from i on, taken as a row of a LANE: how many PROPHETS")
  static void promise02_fromAnyPlaceOfAnySheet() {
    String text = "w/5/2;m401;s206";
    for (int k = 0; k < 4; k++) {
      for (int i : new int[] {0, 1, 45}) {
        ProphetCover x = new ProphetCover();
        x.sheet(k, k % 3, 60);
        for (int at = 0; at < text.length(); at++) {
          x.put(k, i + at, text.charAt(at));
        }
        Due.due("sheet " + k + " from " + i, x.office(k, k % 3, i, 15), 2);
      }
    }
  }

  @Says("An OFFICE by a TEXT of n cells of a SHEET from i on, taken as a row of a LANE: how many PROPHETS")
  static void promise02_theFirstFaultIsCountedFromI() {
    ProphetCover x = new ProphetCover();
    Due.row(x, 0, 0, "xxxw/5;m441".chars().toArray());
    Due.due("from 3 on", x.office(0, 0, 3, 8), -106);
    Due.due("from 2 on", x.office(0, 0, 2, 8), -100);
    Due.due("ends too soon", x.office(0, 0, 3, 5), -105);
    Due.due("nothing, at the end", x.office(0, 0, 11, 0), -100);
  }

  @Says("An OFFICE by a TEXT of n cells of a SHEET from i on, taken as a row of a LANE: how many PROPHETS")
  static void promise02_theOfficeStaysAsItsSheetChanges() {
    ProphetCover x = Due.officeBy("w/5/2;m401;s206");
    x.put(3, 2, '9');
    Due.due("chance", x.chance(0), 5);
    x.lose(3);
    Due.due("prophets", x.many(0), 2);
    Due.due("paid", x.paid(0, 1), 4);
  }

  // ---- promise 2: refusals and faults

  @Says("UNKNOWN; OUTSIDE: lane; CAST (nothing is no CAST); NULL; SIZE: n below 0; INDEX; -100 less it.")
  static void promise02_unknownSheet() {
    for (int k : new int[] {-1, 4, Integer.MIN_VALUE, Integer.MAX_VALUE}) {
      Still.cleared(x -> x.office(k, 0, 0, 8), UNKNOWN);
    }
  }

  @Says("UNKNOWN; OUTSIDE: lane; CAST (nothing is no CAST); NULL; SIZE: n below 0; INDEX; -100 less it.")
  static void promise02_outsideLane() {
    for (int lane : new int[] {-1, 3, Integer.MIN_VALUE, Integer.MAX_VALUE}) {
      Still.cleared(x -> x.office(3, lane, 0, 27), OUTSIDE);
      Still.cleared(x -> x.office(2, lane, 0, -1), OUTSIDE);
    }
  }

  @Says("UNKNOWN; OUTSIDE: lane; CAST (nothing is no CAST); NULL; SIZE: n below 0; INDEX; -100 less it.")
  static void promise02_castOfAnotherLane() {
    for (int has = 0; has < 3; has++) {
      for (int lane = 0; lane < 3; lane++) {
        ProphetCover x = new ProphetCover();
        Due.row(x, 0, has, "w/5;m401".chars().toArray());
        Due.due("a row of " + has + " as of " + lane, x.office(0, lane, 0, 8), has == lane ? 1 : -12);
        Due.due("fault()", x.fault(), has == lane ? 0 : 2);
      }
    }
    Still.comesTo(CAST, x -> x.office(3, 1, 0, 27));
    Still.comesTo(CAST, x -> x.office(3, 2, -1, -1));
    Still.comesTo(CAST, x -> x.office(3, 2, 0, 28));
  }

  @Says("UNKNOWN; OUTSIDE: lane; CAST (nothing is no CAST); NULL; SIZE: n below 0; INDEX; -100 less it.")
  static void promise02_nothingIsNoCastButNull() {
    for (int lane = 0; lane < 3; lane++) {
      int of = lane;
      Still.comesTo(NULL, x -> x.office(2, of, 0, 0));
      Still.comesTo(NULL, x -> x.office(2, of, -1, -1));
    }
    ProphetCover x = Still.standing();
    x.lose(3);
    Due.due("lost", x.office(3, 1, 0, 27), -11);
  }

  @Says("UNKNOWN; OUTSIDE: lane; CAST (nothing is no CAST); NULL; SIZE: n below 0; INDEX; -100 less it.")
  static void promise02_sizeAheadOfIndex() {
    Still.comesTo(SIZE, x -> x.office(3, 0, 0, -1));
    Still.comesTo(SIZE, x -> x.office(3, 0, -1, -1));
    Still.comesTo(SIZE, x -> x.office(3, 0, 28, Integer.MIN_VALUE));
  }

  @Says("UNKNOWN; OUTSIDE: lane; CAST (nothing is no CAST); NULL; SIZE: n below 0; INDEX; -100 less it.")
  static void promise02_indexAheadOfTheText() {
    int most = Integer.MAX_VALUE;
    int[][] beyond = {{0, 28}, {1, 27}, {27, 1}, {28, 0}, {-1, 1}, {-1, 28}, {0, most}, {most, most},
        {most, 1}, {1, most}, {Integer.MIN_VALUE, 0}, {Integer.MIN_VALUE, most}};
    for (int[] b : beyond) {
      Still.comesTo(INDEX, x -> x.office(3, 0, b[0], b[1]));
    }
  }

  @Says("UNKNOWN; OUTSIDE: lane; CAST (nothing is no CAST); NULL; SIZE: n below 0; INDEX; -100 less it.")
  static void promise02_aTextsFaultIsNoneOfTheMachines() {
    Still.cleared(x -> x.office(3, 0, 0, 26), -126);
    Still.cleared(x -> x.office(3, 0, 27, 0), -100);
    Still.cleared(x -> x.office(0, 0, 0, 5), -100);
  }

  // ---- promises 3 and 4: chances

  @Says("CHANCE of an EVENT. UNKNOWN.")
  static void promise03_chanceOfTheFirstAndOfTheLast() {
    ProphetCover x = Due.officeBy("w/0/1/2/3/9;m401");
    int[] due = {UNKNOWN, 0, 1, 2, 3, 9, UNKNOWN};
    for (int e = -1; e <= 5; e++) {
      Due.due("chance(" + e + ")", x.chance(e), due[e + 1]);
    }
  }

  @Says("CHANCE of an EVENT. UNKNOWN.")
  static void promise03_anEventThatIsSaidButNotThereIsUnknown() {
    ProphetCover x = Due.officeBy("w/4/2;m431");
    Due.due("chance", x.chance(1), 2);
    Due.due("chance", x.chance(2), UNKNOWN);
  }

  @Says("CHANCE of an EVENT becomes v (0 .. 9): what it was. UNKNOWN; OUTSIDE.")
  static void promise04_v0To9() {
    ProphetCover x = Due.officeBy("w/5/6;m401");
    int was = 6;
    for (int v : new int[] {0, 9, 9, 1, 8, 0}) {
      Due.due("what it was", x.fate(1, v), was);
      Due.due("what it is", x.chance(1), v);
      was = v;
    }
    Due.due("the other", x.chance(0), 5);
  }

  @Says("CHANCE of an EVENT becomes v (0 .. 9): what it was. UNKNOWN; OUTSIDE.")
  static void promise04_outsideV() {
    for (int v : new int[] {-1, 10, Integer.MIN_VALUE, Integer.MAX_VALUE}) {
      Still.refused(x -> x.fate(0, v), OUTSIDE);
      Still.refused(x -> x.fate(2, v), OUTSIDE);
    }
  }

  @Says("CHANCE of an EVENT becomes v (0 .. 9): what it was. UNKNOWN; OUTSIDE.")
  static void promise04_unknownEventAheadOfV() {
    for (int e : new int[] {-1, 3, 5, Integer.MIN_VALUE, Integer.MAX_VALUE}) {
      Still.refused(x -> x.fate(e, 0), UNKNOWN);
      Still.refused(x -> x.fate(e, 10), UNKNOWN);
    }
    Still.refusedBare(x -> x.fate(0, 0), UNKNOWN);
  }

  @Says("CHANCE of an EVENT becomes v (0 .. 9): what it was. UNKNOWN; OUTSIDE.")
  static void promise04_whatFollowsGoesByTheNewChance() {
    ProphetCover x = Due.officeBy("w/5/5;m401");
    Due.due("fate", x.fate(0, 1), 5);
    Due.due("fair", x.fair(0, 0), 2);
    Due.due("fair", x.fair(0, 1), 5);
    Due.due("hold", x.hold(9), 0);
    Due.due("odds", x.odds(4, 1), 10);
    Due.due("best", x.best(0, 1), 2);
  }

  // ---- promise 5: of a prophet

  @Says("Of a PROPHET: 0 kind, 1 COVER, 2 what they SAID, as a set (0 .. 31), 3 PAYS,")
  static void promise05_everyWhatOfEveryKind() {
    ProphetCover x = Due.officeBy("w/5/2/9;m001;s931;l900;l024");
    int[][] due = {{0, 0, 1, 0, 0}, {1, 9, 31, 10, 1}, {2, 9, 0, 20, 0}, {2, 0, 24, 2, 0}};
    for (int p = 0; p < 4; p++) {
      for (int what = 0; what < 5; what++) {
        Due.due("ofProphet(" + p + ", " + what + ")", x.ofProphet(p, what), due[p][what]);
      }
    }
  }

  @Says("to a MODEST one COVER; to a SURE one 1 more; to a LOUD one twice what it is to a SURE one.")
  static void promise05_paysOfEveryCover() {
    for (int cover = 0; cover <= 9; cover++) {
      ProphetCover x = Due.officeBy("w/5;m" + cover + "00;s" + cover + "00;l" + cover + "00");
      Due.due("modest " + cover, x.ofProphet(0, 3), cover);
      Due.due("sure " + cover, x.ofProphet(1, 3), cover + 1);
      Due.due("loud " + cover, x.ofProphet(2, 3), 2 * cover + 2);
    }
  }

  @Says("4 whether they are a FRAUD (1, 0)")
  static void promise05_aFraudSaidAllEventsThatThereAre() {
    for (int events = 1; events <= 5; events++) {
      int all = (1 << events) - 1;
      ProphetCover x = Due.officeBy("w/1/2/3/4/5".substring(0, 1 + 2 * events) + ";m400");
      for (int said = 0; said <= 31; said++) {
        x.say(0, said);
        Due.due(said + " of " + events, x.ofProphet(0, 4), (said & all) == all ? 1 : 0);
      }
    }
  }

  @Says("UNKNOWN; OUTSIDE.\n\n## Promise 6: say")
  static void promise05_outsideWhat() {
    for (int what : new int[] {-1, 5, Integer.MIN_VALUE, Integer.MAX_VALUE}) {
      Still.refused(x -> x.ofProphet(0, what), OUTSIDE);
      Still.refused(x -> x.ofProphet(3, what), OUTSIDE);
    }
  }

  @Says("UNKNOWN; OUTSIDE.\n\n## Promise 6: say")
  static void promise05_unknownProphetAheadOfWhat() {
    for (int p : new int[] {-1, 4, Integer.MIN_VALUE, Integer.MAX_VALUE}) {
      Still.refused(x -> x.ofProphet(p, 0), UNKNOWN);
      Still.refused(x -> x.ofProphet(p, 5), UNKNOWN);
    }
    Still.refusedBare(x -> x.ofProphet(0, 5), UNKNOWN);
  }

  // ---- promise 6: say

  @Says("What a PROPHET SAID becomes a set (0 .. 31): what it was. UNKNOWN; OUTSIDE.")
  static void promise06_aSet0To31BeThereSuchEventsOrNot() {
    ProphetCover x = Due.officeBy("w/5;m401;s317");
    int was = 17;
    for (int set : new int[] {0, 31, 31, 1, 30, 16, 0}) {
      Due.due("what it was", x.say(1, set), was);
      Due.due("what it is", x.ofProphet(1, 2), set);
      was = set;
    }
    Due.due("the other", x.ofProphet(0, 2), 1);
  }

  @Says("What a PROPHET SAID becomes a set (0 .. 31): what it was. UNKNOWN; OUTSIDE.")
  static void promise06_outsideSet() {
    for (int set : new int[] {-1, 32, Integer.MIN_VALUE, Integer.MAX_VALUE}) {
      Still.refused(x -> x.say(0, set), OUTSIDE);
      Still.refused(x -> x.say(3, set), OUTSIDE);
    }
  }

  @Says("What a PROPHET SAID becomes a set (0 .. 31): what it was. UNKNOWN; OUTSIDE.")
  static void promise06_unknownProphetAheadOfSet() {
    for (int p : new int[] {-1, 4, Integer.MIN_VALUE, Integer.MAX_VALUE}) {
      Still.refused(x -> x.say(p, 0), UNKNOWN);
      Still.refused(x -> x.say(p, 32), UNKNOWN);
    }
    Still.refusedBare(x -> x.say(0, 0), UNKNOWN);
  }

  @Says("What a PROPHET SAID becomes a set (0 .. 31): what it was. UNKNOWN; OUTSIDE.")
  static void promise06_oneBecomesAFraudAndIsOneNoMore() {
    ProphetCover x = Due.officeBy("w/5/2;m401");
    x.say(0, 3);
    Due.due("a fraud", x.ofProphet(0, 4), 1);
    Due.due("frauds", x.many(2), 1);
    Due.due("paid", x.paid(0, 3), 0);
    x.say(0, 30);
    Due.due("no fraud", x.ofProphet(0, 4), 0);
    Due.due("frauds", x.many(2), 0);
    Due.due("paid", x.paid(0, 3), 4);
  }
}
