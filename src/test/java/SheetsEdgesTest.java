/** The edges of promises 21 to 31: sheets, what is told and heard, faults, how many. */
public final class SheetsEdgesTest {
  private static final int UNKNOWN = -1, OUTSIDE = -2;
  private static final long LOST = Long.MIN_VALUE;
  private static final int NULL = 1, CAST = 2, INDEX = 3, SIZE = 4;
  private static final int[] FAR = {Integer.MIN_VALUE, Integer.MIN_VALUE + 1, Integer.MAX_VALUE - 1,
      Integer.MAX_VALUE};
  private static final String SHEETS = "SHEETS 0 .. 3 have nothing (at first), or a row of 0 .. 60 numbers"
      + " (0 at first) of a LANE: 0 bytes, 1 shorts, 2 ints";
  private static final String COPY = "n cells of a SHEET from i on go to another one (perhaps the same)"
      + " from j on, as they were: n.";
  private static final String COPY_FAULTS = "UNKNOWN; FAULTS NULL (the first, the other), CAST (unlike"
      + " LANES), INDEX: i, j, n below 0 or beyond.";

  public static void main(String[] args) throws Exception {
    Edges.run(SheetsEdgesTest.class);
  }

  // ---- promise 21: sheet

  @Says(SHEETS)
  static void promise21_aRowOf0To60() {
    for (int k = 0; k < 4; k++) {
      for (int n : new int[] {0, 1, 59, 60}) {
        ProphetCover x = new ProphetCover();
        Due.due("a row of " + n, x.sheet(k, 2, n), 1);
        Due.due("its last cell", x.put(k, n - 1, 5), n == 0 ? -13 : 1);
        Due.due("one beyond", x.put(k, n, 5), -13);
      }
    }
  }

  @Says(SHEETS)
  static void promise21_everyCellIs0AtFirst() {
    ProphetCover x = new ProphetCover();
    x.sheet(0, 2, 60);
    for (int i = 0; i < 60; i++) {
      x.put(0, i, i + 1);
    }
    Due.due("a new row", x.sheet(0, 2, 60), 1);
    for (int i = 0; i < 60; i++) {
      Due.due("cell " + i, x.cell(0, i, 2), 0);
    }
  }

  @Says(SHEETS)
  static void promise21_aShorterRowLeavesNothingForALongerOne() {
    ProphetCover x = new ProphetCover();
    Due.row(x, 0, 0, 1, 2, 3, 4);
    x.sheet(0, 0, 2);
    Due.due("beyond the shorter", x.cell(0, 2, 0), LOST);
    x.sheet(0, 0, 4);
    for (int i = 0; i < 4; i++) {
      Due.due("cell " + i, x.cell(0, i, 0), 0);
    }
  }

  @Says("A SHEET gets a new row: 1. UNKNOWN; OUTSIDE: lane, n above 60; SIZE.")
  static void promise21_ofAnotherLane() {
    ProphetCover x = new ProphetCover();
    for (int lane : new int[] {2, 0, 1, 2}) {
      Due.due("a row of " + lane, x.sheet(0, lane, 1), 1);
      for (int as = 0; as < 3; as++) {
        Due.due("as " + as, x.cell(0, 0, as), as == lane ? 0 : LOST);
      }
    }
  }

  @Says("A SHEET gets a new row: 1. UNKNOWN; OUTSIDE: lane, n above 60; SIZE.")
  static void promise21_unknownAheadOfAll() {
    for (int k : new int[] {-1, 4, FAR[0], FAR[3]}) {
      Still.cleared(x -> x.sheet(k, 0, 1), UNKNOWN);
      Still.cleared(x -> x.sheet(k, 3, 61), UNKNOWN);
      Still.cleared(x -> x.sheet(k, 0, -1), UNKNOWN);
    }
  }

  @Says("A SHEET gets a new row: 1. UNKNOWN; OUTSIDE: lane, n above 60; SIZE.")
  static void promise21_outsideLaneAheadOfSize() {
    for (int lane : new int[] {-1, 3, FAR[0], FAR[3]}) {
      Still.cleared(x -> x.sheet(0, lane, 1), OUTSIDE);
      Still.cleared(x -> x.sheet(0, lane, -1), OUTSIDE);
    }
  }

  @Says("A SHEET gets a new row: 1. UNKNOWN; OUTSIDE: lane, n above 60; SIZE.")
  static void promise21_outsideNAbove60() {
    for (int n : new int[] {61, 62, FAR[3]}) {
      Still.cleared(x -> x.sheet(0, 0, n), OUTSIDE);
      Still.cleared(x -> x.sheet(2, 0, n), OUTSIDE);
    }
  }

  @Says("A SHEET gets a new row: 1. UNKNOWN; OUTSIDE: lane, n above 60; SIZE.")
  static void promise21_sizeBelow0() {
    for (int n : new int[] {-1, -2, FAR[0]}) {
      Still.comesTo(SIZE, x -> x.sheet(0, 0, n));
      Still.comesTo(SIZE, x -> x.sheet(2, 2, n));
    }
  }

  // ---- promise 22: lose

  @Says("A SHEET has nothing: 1; 0: it had nothing. UNKNOWN.")
  static void promise22_aRowAnEmptyRowAndNothing() {
    for (int k = 0; k < 4; k++) {
      ProphetCover x = new ProphetCover();
      Due.due("nothing", x.lose(k), 0);
      x.sheet(k, 0, 1);
      Due.due("a row", x.lose(k), 1);
      Due.due("nothing", x.lose(k), 0);
      x.sheet(k, 0, 0);
      Due.due("an empty row", x.lose(k), 1);
      Due.due("nothing", x.lose(k), 0);
      Due.due("there is nothing", x.put(k, 0, 1), -11);
    }
  }

  @Says("A SHEET has nothing: 1; 0: it had nothing. UNKNOWN.")
  static void promise22_theOthersKeepTheirs() {
    for (int lost = 0; lost < 4; lost++) {
      ProphetCover x = new ProphetCover();
      for (int k = 0; k < 4; k++) {
        Due.row(x, k, 0, 7);
      }
      x.lose(lost);
      for (int k = 0; k < 4; k++) {
        Due.due("sheet " + k, x.cell(k, 0, 0), k == lost ? LOST : 7);
      }
    }
  }

  @Says("A SHEET has nothing: 1; 0: it had nothing. UNKNOWN.")
  static void promise22_nothingOfALostRowIsInANewOne() {
    ProphetCover x = new ProphetCover();
    Due.row(x, 0, 1, 5, 6, 7);
    x.lose(0);
    x.sheet(0, 1, 3);
    for (int i = 0; i < 3; i++) {
      Due.due("cell " + i, x.cell(0, i, 1), 0);
    }
  }

  @Says("A SHEET has nothing: 1; 0: it had nothing. UNKNOWN.")
  static void promise22_unknown() {
    for (int k : new int[] {-1, 4, FAR[0], FAR[3]}) {
      Still.refused(x -> x.lose(k), UNKNOWN);
    }
  }

  // ---- promise 23: put

  private static void isCut(int lane, long put, long due) {
    ProphetCover x = new ProphetCover();
    x.sheet(0, lane, 3);
    Due.due("put " + put, x.put(0, 1, (int) put), 1);
    Due.due(put + " cut to lane " + lane, x.cell(0, 1, lane), due);
    Due.due("the cell ahead", x.cell(0, 0, lane), 0);
    Due.due("the cell behind", x.cell(0, 2, lane), 0);
  }

  @Says("what comes to a cell of it is cut to its LANE (with its sign)")
  static void promise23_cutToAByte() {
    long[][] cuts = {{0, 0}, {-1, -1}, {127, 127}, {128, -128}, {-128, -128}, {-129, 127}, {255, -1},
        {256, 0}, {384, -128}, {-256, 0}, {65535, -1}, {FAR[3], -1}, {FAR[0], 0}};
    for (long[] c : cuts) {
      isCut(0, c[0], c[1]);
    }
  }

  @Says("what comes to a cell of it is cut to its LANE (with its sign)")
  static void promise23_cutToAShort() {
    long[][] cuts = {{0, 0}, {-1, -1}, {255, 255}, {32767, 32767}, {32768, -32768}, {-32768, -32768},
        {-32769, 32767}, {65535, -1}, {65536, 0}, {98304, -32768}, {FAR[3], -1}, {FAR[0], 0}};
    for (long[] c : cuts) {
      isCut(1, c[0], c[1]);
    }
  }

  @Says("what comes to a cell of it is cut to its LANE (with its sign)")
  static void promise23_anIntStaysWhole() {
    for (long v : new long[] {0, -1, 128, 32768, 65536, -32769, FAR[0], FAR[3]}) {
      isCut(2, v, v);
    }
  }

  @Says("Cell i of a SHEET becomes v: 1. UNKNOWN; NULL; INDEX.")
  static void promise23_unknownAheadOfAll() {
    for (int k : new int[] {-1, 4, FAR[0], FAR[3]}) {
      Still.cleared(x -> x.put(k, 0, 5), UNKNOWN);
      Still.cleared(x -> x.put(k, -1, 5), UNKNOWN);
    }
  }

  @Says("Cell i of a SHEET becomes v: 1. UNKNOWN; NULL; INDEX.")
  static void promise23_nullAheadOfIndex() {
    for (int i : new int[] {0, -1, 60, FAR[0], FAR[3]}) {
      Still.comesTo(NULL, x -> x.put(2, i, 5));
    }
  }

  @Says("Cell i of a SHEET becomes v: 1. UNKNOWN; NULL; INDEX.")
  static void promise23_index() {
    for (int i : new int[] {-1, 5, 6, 59, 60, FAR[0], FAR[3]}) {
      Still.comesTo(INDEX, x -> x.put(0, i, 5));
    }
    Due.due("the first", Still.standing().put(0, 0, 5), 1);
    Due.due("the last", Still.standing().put(0, 4, 5), 1);
  }

  // ---- promise 24: cell

  @Says("Cell i of what a SHEET has, taken as a row of a LANE.")
  static void promise24_theFirstAndTheLast() {
    for (int lane = 0; lane < 3; lane++) {
      ProphetCover x = new ProphetCover();
      Due.row(x, 3, lane, 3, 0, -4);
      Due.due("one ahead", x.cell(3, -1, lane), LOST);
      Due.due("the first", x.cell(3, 0, lane), 3);
      Due.due("the last", x.cell(3, 2, lane), -4);
      Due.due("one behind", x.cell(3, 3, lane), LOST);
    }
  }

  @Says("LOST: UNKNOWN, OUTSIDE: lane; FAULTS CAST (nothing is no CAST), NULL, INDEX.")
  static void promise24_lostForAnUnknownSheet() {
    for (int k : new int[] {-1, 4, FAR[0], FAR[3]}) {
      Still.cleared(x -> x.cell(k, 0, 0), LOST);
      Still.cleared(x -> x.cell(k, -1, 3), LOST);
    }
  }

  @Says("LOST: UNKNOWN, OUTSIDE: lane; FAULTS CAST (nothing is no CAST), NULL, INDEX.")
  static void promise24_lostOutsideLaneAheadOfFaults() {
    for (int lane : new int[] {-1, 3, FAR[0], FAR[3]}) {
      Still.cleared(x -> x.cell(0, 0, lane), LOST);
      Still.cleared(x -> x.cell(2, 0, lane), LOST);
      Still.cleared(x -> x.cell(0, -1, lane), LOST);
    }
  }

  @Says("LOST: UNKNOWN, OUTSIDE: lane; FAULTS CAST (nothing is no CAST), NULL, INDEX.")
  static void promise24_lostByCastAheadOfIndex() {
    for (int has = 0; has < 3; has++) {
      for (int lane = 0; lane < 3; lane++) {
        ProphetCover x = new ProphetCover();
        x.sheet(0, has, 1);
        Due.due("a row of " + has + " as of " + lane, x.cell(0, 0, lane), has == lane ? 0 : LOST);
        Due.due("fault()", x.fault(), has == lane ? 0 : CAST);
        Due.due("beyond", x.cell(0, 1, lane), LOST);
        Due.due("fault()", x.fault(), has == lane ? INDEX : CAST);
      }
    }
    Still.lostBy(CAST, x -> x.cell(0, 0, 1));
    Still.lostBy(CAST, x -> x.cell(1, -1, 0));
  }

  @Says("LOST: UNKNOWN, OUTSIDE: lane; FAULTS CAST (nothing is no CAST), NULL, INDEX.")
  static void promise24_lostByNullForNothingAsAnyLane() {
    for (int lane : new int[] {0, 1, 2}) {
      Still.lostBy(NULL, x -> x.cell(2, 0, lane));
      Still.lostBy(NULL, x -> x.cell(2, -1, lane));
    }
    ProphetCover x = Still.standing();
    x.lose(1);
    Due.due("lost", x.cell(1, 0, 0), LOST);
    Due.due("fault()", x.fault(), NULL);
  }

  @Says("LOST: UNKNOWN, OUTSIDE: lane; FAULTS CAST (nothing is no CAST), NULL, INDEX.")
  static void promise24_lostByIndex() {
    for (int i : new int[] {-1, 5, 6, 59, 60, FAR[0], FAR[3]}) {
      Still.lostBy(INDEX, x -> x.cell(0, i, 0));
    }
  }

  @Says("LOST: UNKNOWN, OUTSIDE: lane; FAULTS CAST (nothing is no CAST), NULL, INDEX.")
  static void promise24_noCellIsLostByItsOwnNumber() {
    ProphetCover x = new ProphetCover();
    Due.row(x, 0, 2, Integer.MIN_VALUE);
    Due.due("the least int", x.cell(0, 0, 2), Integer.MIN_VALUE);
    Due.due("fault()", x.fault(), 0);
  }

  // ---- promise 25: copy

  private static void isRow(ProphetCover x, int k, int lane, int... due) {
    for (int i = 0; i < due.length; i++) {
      Due.due("cell " + i + " of sheet " + k, x.cell(k, i, lane), due[i]);
    }
    Due.due("no more cells", x.cell(k, due.length, lane), LOST);
  }

  @Says(COPY)
  static void promise25_toAnotherOfEveryLane() {
    for (int lane = 0; lane < 3; lane++) {
      ProphetCover x = new ProphetCover();
      Due.row(x, 0, lane, 1, -2, 3);
      Due.row(x, 1, lane, 4, 5, 6, 7);
      Due.due("two", x.copy(0, 1, 1, 0, 2), 2);
      isRow(x, 1, lane, -2, 3, 6, 7);
      Due.due("one", x.copy(1, 3, 0, 2, 1), 1);
      isRow(x, 0, lane, 1, -2, 7);
      isRow(x, 1, lane, -2, 3, 6, 7);
    }
  }

  @Says(COPY)
  static void promise25_withinOneSheetAsTheyWere() {
    ProphetCover x = new ProphetCover();
    Due.row(x, 0, 2, 1, 2, 3, 4, 5);
    Due.due("to the right", x.copy(0, 0, 0, 1, 4), 4);
    isRow(x, 0, 2, 1, 1, 2, 3, 4);
    Due.due("to the left", x.copy(0, 2, 0, 0, 3), 3);
    isRow(x, 0, 2, 2, 3, 4, 3, 4);
    Due.due("upon themselves", x.copy(0, 0, 0, 0, 5), 5);
    isRow(x, 0, 2, 2, 3, 4, 3, 4);
  }

  @Says(COPY)
  static void promise25_wholeRowsAndNoCells() {
    ProphetCover x = new ProphetCover();
    x.sheet(0, 1, 60);
    x.sheet(1, 1, 60);
    x.put(0, 0, 7);
    x.put(0, 59, 8);
    Due.due("all sixty", x.copy(0, 0, 1, 0, 60), 60);
    Due.due("the first", x.cell(1, 0, 1), 7);
    Due.due("the last", x.cell(1, 59, 1), 8);
    Due.due("none, from behind all", x.copy(0, 60, 1, 60, 0), 0);
    Due.due("none", x.copy(0, 0, 1, 0, 0), 0);
    Due.due("fault()", x.fault(), 0);
    Due.due("one, from behind all", x.copy(0, 60, 1, 0, 1), -13);
    Due.due("one, to behind all", x.copy(0, 0, 1, 60, 1), -13);
    Due.due("sixty-one", x.copy(0, 0, 1, 0, 61), -13);
  }

  @Says(COPY_FAULTS)
  static void promise25_unknownAheadOfFaults() {
    for (int k : new int[] {-1, 4, FAR[0], FAR[3]}) {
      Still.cleared(x -> x.copy(k, 0, 0, 0, 0), UNKNOWN);
      Still.cleared(x -> x.copy(0, 0, k, 0, 0), UNKNOWN);
      Still.cleared(x -> x.copy(2, -1, k, -1, -1), UNKNOWN);
      Still.cleared(x -> x.copy(k, -1, 2, -1, -1), UNKNOWN);
    }
  }

  @Says(COPY_FAULTS)
  static void promise25_nullOfTheFirstOrTheOtherAheadOfCastAndIndex() {
    Still.comesTo(NULL, x -> x.copy(2, 0, 0, 0, 0));
    Still.comesTo(NULL, x -> x.copy(0, 0, 2, 0, 0));
    Still.comesTo(NULL, x -> x.copy(2, 0, 2, 0, 0));
    Still.comesTo(NULL, x -> x.copy(2, -1, 1, -1, -1));
    Still.comesTo(NULL, x -> x.copy(1, -1, 2, -1, -1));
  }

  @Says(COPY_FAULTS)
  static void promise25_castOfUnlikeLanesAheadOfIndex() {
    for (int from = 0; from < 3; from++) {
      for (int to = 0; to < 3; to++) {
        ProphetCover x = new ProphetCover();
        Due.row(x, 0, from, 5);
        Due.row(x, 1, to, 6);
        Due.due(from + " to " + to, x.copy(0, 0, 1, 0, 1), from == to ? 1 : -12);
        Due.due("the cell", x.cell(1, 0, to), from == to ? 5 : 6);
        Due.due("none, beyond", x.copy(0, 2, 1, 2, 0), from == to ? -13 : -12);
      }
    }
    Still.comesTo(CAST, x -> x.copy(0, 0, 1, 0, 0));
    Still.comesTo(CAST, x -> x.copy(1, -1, 0, -1, -1));
  }

  @Says(COPY_FAULTS)
  static void promise25_indexOfIJNBelow0OrBeyond() {
    int most = FAR[3];
    int least = FAR[0];
    int[][] beyond = {{-1, 0, 0}, {0, -1, 0}, {0, 0, -1}, {6, 0, 0}, {0, 28, 0}, {0, 0, 6}, {5, 0, 1},
        {0, 27, 1}, {3, 0, 3}, {0, 25, 3}, {least, 0, 0}, {0, least, 0}, {0, 0, least}, {most, 0, 0},
        {0, most, 0}, {0, 0, most}, {most, most, most}, {1, 0, most}, {most, 0, 1}, {0, most, 1}};
    for (int[] b : beyond) {
      Still.comesTo(INDEX, x -> x.copy(0, b[0], 3, b[1], b[2]));
    }
  }

  @Says(COPY_FAULTS)
  static void promise25_aLengthBelow0IsIndexNotSize() {
    Still.comesTo(INDEX, x -> x.copy(0, 0, 3, 0, -1));
    Still.comesTo(INDEX, x -> x.copy(0, 5, 0, 5, FAR[0]));
  }

  // ---- promises 26, 27 and 29: tell, hear, trace

  @Says("TELLING of PROPHETS by bodies that leave their number in TRACE (an int that wraps, 0 at first,"
      + " becomes 31 times it and the number) as they begin: MODEST (1): COVER.")
  static void promise26_modest() {
    for (int cover = 0; cover <= 9; cover++) {
      ProphetCover x = Due.officeBy("w/5;m" + cover + "00");
      Due.due("tell", x.tell(0), cover);
      Due.due("trace", x.trace(), 1);
    }
  }

  @Says("SURE (2): what MODEST's gives, and 100.")
  static void promise26_sure() {
    for (int cover = 0; cover <= 9; cover++) {
      ProphetCover x = Due.officeBy("w/5;s" + cover + "00");
      Due.due("tell", x.tell(0), 100 + cover);
      Due.due("trace", x.trace(), 31 * 2 + 1);
    }
  }

  @Says("LOUD (3): what SURE's gives, and what MODEST's gives (SURE's left out).")
  static void promise26_loud() {
    for (int cover = 0; cover <= 9; cover++) {
      ProphetCover x = Due.officeBy("w/5;l" + cover + "00");
      Due.due("tell", x.tell(0), 100 + 2 * cover);
      Due.due("trace", x.trace(), ((3 * 31 + 2) * 31 + 1) * 31 + 1);
    }
  }

  @Says("TELLING of a PROPHET. UNKNOWN.")
  static void promise26_unknownLeavesNothingInTrace() {
    for (int p : new int[] {-1, 4, FAR[0], FAR[3]}) {
      Still.refused(x -> x.tell(p), UNKNOWN);
    }
    Still.refusedBare(x -> x.tell(0), UNKNOWN);
  }

  @Says("TELLING of a PROPHET. UNKNOWN.")
  static void promise26_aFraudTellsAsTheOthersDo() {
    ProphetCover x = Due.officeBy("w/5;l901");
    Due.due("a fraud", x.ofProphet(0, 4), 1);
    Due.due("tell", x.tell(0), 118);
  }

  @Says("HEARD by a lent body (4): the PROPHET's number; LOUD ones have their own (5): 20.")
  static void promise27_byTheLentBodyOrTheirOwn() {
    ProphetCover x = Due.officeBy("w/5;m401;s401;l401;m401");
    int[] due = {0, 1, 20, 3};
    int[] left = {4, 4, 5, 4};
    int trace = 0;
    for (int p = 0; p < 4; p++) {
      Due.due("hear(" + p + ")", x.hear(p), due[p]);
      trace = 31 * trace + left[p];
      Due.due("trace", x.trace(), trace);
    }
    x = Due.officeBy("w/5;l401;l401;s401;s401");
    Due.due("loud, the first", x.hear(0), 20);
    Due.due("loud, the second", x.hear(1), 20);
    Due.due("sure, the third", x.hear(2), 2);
    Due.due("sure, the fourth", x.hear(3), 3);
  }

  @Says("How they are HEARD. UNKNOWN.")
  static void promise27_unknownLeavesNothingInTrace() {
    for (int p : new int[] {-1, 4, FAR[0], FAR[3]}) {
      Still.refused(x -> x.hear(p), UNKNOWN);
    }
    Still.refusedBare(x -> x.hear(0), UNKNOWN);
  }

  @Says("TRACE (an int that wraps, 0 at first, becomes 31 times it and the number)")
  static void promise29_0AtFirstAndWrapping() {
    ProphetCover x = Due.officeBy("w/5;l401");
    Due.due("at first", x.trace(), 0);
    x.tell(0);
    Due.due("of one loud one", x.trace(), 91327);
    x.hear(0);
    Due.due("and heard", x.trace(), 2831142);
    x.hear(0);
    Due.due("and again", x.trace(), 87765407);
    x.hear(0);
    Due.due("wrapped below 0", x.trace(), -1574239674);
    x.hear(0);
    Due.due("wrapped on", x.trace(), -1556789633);
    Due.due("asked again", x.trace(), -1556789633);
  }

  @Says("TRACE.")
  static void promise29_nothingElseLeavesANumber() {
    ProphetCover x = Still.standing();
    int trace = x.trace();
    x.as(2, 1);
    x.ofProphet(2, 3);
    x.paid(2, 1);
    x.total(1);
    x.covers(1);
    x.kinds(1);
    x.put(0, 0, 1);
    x.sheet(2, 0, 1);
    x.lose(2);
    x.fault();
    x.many(0);
    Due.due("trace", x.trace(), trace);
  }

  // ---- promise 28: as

  @Says("A PROPHET, taken as one of a kind: 1. UNKNOWN; OUTSIDE; CAST: they are none.")
  static void promise28_everyKindAsEveryKind() {
    for (int is = 0; is < 3; is++) {
      for (int kind = 0; kind < 3; kind++) {
        ProphetCover x = Due.officeBy("w/5;" + "msl".charAt(is) + "401");
        x.put(0, 0, 0);
        Due.due("one of " + is + " as one of " + kind, x.as(0, kind), is >= kind ? 1 : -12);
        Due.due("fault()", x.fault(), is >= kind ? 0 : CAST);
      }
    }
  }

  @Says("A PROPHET, taken as one of a kind: 1. UNKNOWN; OUTSIDE; CAST: they are none.")
  static void promise28_castChangesNothing() {
    Still.comesTo(CAST, x -> x.as(0, 1));
    Still.comesTo(CAST, x -> x.as(0, 2));
    Still.comesTo(CAST, x -> x.as(1, 2));
  }

  @Says("A PROPHET, taken as one of a kind: 1. UNKNOWN; OUTSIDE; CAST: they are none.")
  static void promise28_unknownAheadOfKind() {
    for (int p : new int[] {-1, 4, FAR[0], FAR[3]}) {
      Still.cleared(x -> x.as(p, 0), UNKNOWN);
      Still.cleared(x -> x.as(p, 3), UNKNOWN);
    }
    Still.clearedBare(x -> x.as(0, 0), UNKNOWN);
  }

  @Says("A PROPHET, taken as one of a kind: 1. UNKNOWN; OUTSIDE; CAST: they are none.")
  static void promise28_outsideKindAheadOfCast() {
    for (int kind : new int[] {-1, 3, FAR[0], FAR[3]}) {
      Still.cleared(x -> x.as(0, kind), OUTSIDE);
      Still.cleared(x -> x.as(2, kind), OUTSIDE);
    }
  }

  // ---- promise 30: fault

  @Says("The FAULT of the latest call that names one: 0: it came to none, or was refused (0 ahead of any).")
  static void promise30_0AheadOfAny() {
    ProphetCover x = new ProphetCover();
    Due.due("fault()", x.fault(), 0);
    x.many(9);
    x.lose(0);
    x.total(0);
    Due.due("ahead of any that names one", x.fault(), 0);
  }

  @Says("The FAULT of the latest call that names one: 0: it came to none, or was refused (0 ahead of any).")
  static void promise30_callsThatNameNoneLeaveIt() {
    for (int number = 1; number <= 4; number++) {
      ProphetCover x = Still.standing();
      makeFault(x, number);
      x.chance(0);
      x.fate(0, 1);
      x.ofProphet(0, 0);
      x.say(0, 1);
      x.paid(0, 0);
      x.total(0);
      x.fair(0, 0);
      x.safe(0);
      x.hold(1);
      x.best(0, 1);
      x.came(0, 0);
      x.reading(0, 0, 0);
      x.back(1);
      x.covers(0);
      x.kinds(0);
      x.sayings(0, 0);
      x.odds(0, 0);
      x.lose(2);
      x.lose(0);
      x.tell(0);
      x.hear(0);
      x.trace();
      x.many(0);
      Due.due("fault()", x.fault(), number);
      Due.due("asked again", x.fault(), number);
    }
  }

  private static void makeFault(ProphetCover x, int number) {
    switch (number) {
      case NULL:
        Due.due("null", x.put(2, 0, 0), -11);
        break;
      case CAST:
        Due.due("cast", x.as(0, 2), -12);
        break;
      case INDEX:
        Due.due("index", x.put(0, 99, 0), -13);
        break;
      default:
        Due.due("size", x.sheet(0, 0, -1), -14);
    }
    Due.due("fault()", x.fault(), number);
  }

  private static void clears(Still.Call call, long due) {
    for (int number = 1; number <= 4; number++) {
      ProphetCover x = Still.standing();
      makeFault(x, number);
      Due.due("the call", call.on(x), due);
      Due.due("fault() behind " + number, x.fault(), 0);
    }
  }

  @Says("The FAULT of the latest call that names one: 0: it came to none, or was refused (0 ahead of any).")
  static void promise30_callsThatNameOneAndComeToNoneMakeIt0() {
    clears(x -> x.office(3, 0, 0, 27), 4);
    clears(x -> x.office(3, 0, 0, 26), -126);
    clears(x -> x.years(0, 0, 0, 0, 1, 0), 0);
    clears(x -> x.sheet(2, 0, 0), 1);
    clears(x -> x.put(0, 0, 0), 1);
    clears(x -> x.cell(0, 1, 0), 1);
    clears(x -> x.copy(0, 0, 0, 0, 0), 0);
    clears(x -> x.as(0, 0), 1);
  }

  @Says("The FAULT of the latest call that names one: 0: it came to none, or was refused (0 ahead of any).")
  static void promise30_callsThatNameOneAndAreRefusedMakeIt0() {
    clears(x -> x.office(4, 0, 0, 27), UNKNOWN);
    clears(x -> x.office(3, 3, 0, 27), OUTSIDE);
    clears(x -> x.years(0, 4, 0, 0, 1, 0), UNKNOWN);
    clears(x -> x.years(0, 0, 0, 3, 1, 0), OUTSIDE);
    clears(x -> x.sheet(0, 0, 61), OUTSIDE);
    clears(x -> x.put(4, 0, 0), UNKNOWN);
    clears(x -> x.cell(4, 0, 0), LOST);
    clears(x -> x.cell(0, 0, 3), LOST);
    clears(x -> x.copy(0, 0, 4, 0, 0), UNKNOWN);
    clears(x -> x.as(4, 0), UNKNOWN);
    clears(x -> x.as(0, 3), OUTSIDE);
  }

  @Says("The FAULT of the latest call that names one: 0: it came to none, or was refused (0 ahead of any).")
  static void promise30_oneFaultBehindAnother() {
    ProphetCover x = Still.standing();
    for (int first = 1; first <= 4; first++) {
      for (int second = 1; second <= 4; second++) {
        makeFault(x, first);
        makeFault(x, second);
      }
    }
  }

  // ---- promise 31: many

  @Says("How many: 0 PROPHETS, 1 EVENTS, 2 FRAUDS, 3 READINGS (0 all without an OFFICE). OUTSIDE.")
  static void promise31_0AllWithoutAnOffice() {
    ProphetCover x = Still.bare();
    Due.due("a text with a fault", Due.office(x, 2, 0, "w/5;m40"), -107);
    for (int what = 0; what < 4; what++) {
      Due.due("many(" + what + ")", x.many(what), 0);
    }
  }

  @Says("How many: 0 PROPHETS, 1 EVENTS, 2 FRAUDS, 3 READINGS (0 all without an OFFICE). OUTSIDE.")
  static void promise31_theLeastAndTheMost() {
    ProphetCover x = Due.officeBy("w/5;m400");
    int[] least = {1, 1, 0, 0};
    for (int what = 0; what < 4; what++) {
      Due.due("many(" + what + ")", x.many(what), least[what]);
    }
    x = Due.officeBy("w/5/5/5/5/5;m431;s431;l431;m031");
    for (int k = 0; k < 8; k++) {
      x.reading(0, 0, 0);
    }
    int[] most = {4, 5, 4, 8};
    for (int what = 0; what < 4; what++) {
      Due.due("many(" + what + ")", x.many(what), most[what]);
    }
  }

  @Says("How many: 0 PROPHETS, 1 EVENTS, 2 FRAUDS, 3 READINGS (0 all without an OFFICE). OUTSIDE.")
  static void promise31_fraudsByEventsThatThereAre() {
    ProphetCover x = Due.officeBy("w/5/5;m403;m407;m405;m428");
    Due.due("frauds", x.many(2), 2);
    x.say(2, 3);
    Due.due("one more", x.many(2), 3);
    x.say(0, 1);
    x.say(1, 30);
    Due.due("two less", x.many(2), 1);
  }

  @Says("How many: 0 PROPHETS, 1 EVENTS, 2 FRAUDS, 3 READINGS (0 all without an OFFICE). OUTSIDE.")
  static void promise31_outside() {
    for (int what : new int[] {-1, 4, FAR[0], FAR[3]}) {
      Still.refused(x -> x.many(what), OUTSIDE);
      Still.refusedBare(x -> x.many(what), OUTSIDE);
    }
  }
}
