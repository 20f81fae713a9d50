/** Promises 21 to 31: sheets, parts. */
public final class SheetsTest {
  private static final int UNKNOWN = -1, OUTSIDE = -2;
  private static final long LOST = Long.MIN_VALUE;

  public static void main(String[] args) {
    sheetAndLose();
    putAndCell();
    copyWithin();
    copyRefusals();
    tellAndHear();
    as();
    faultOfTheLatest();
    many();
    Due.end();
  }

  private static void faultIs(ProphetCover x, long got, int number) {
    Due.due("a fault", got, -10 - number);
    Due.due("30: fault", x.fault(), number);
  }

  private static void refusedAs(ProphetCover x, long got, int refusal) {
    Due.due("a refusal", got, refusal);
    Due.due("30: fault of a refused call", x.fault(), 0);
  }

  private static void sheetAndLose() {
    ProphetCover x = new ProphetCover();
    faultIs(x, x.sheet(0, 0, -1), 4);
    faultIs(x, x.sheet(0, 0, Integer.MIN_VALUE), 4);
    refusedAs(x, x.sheet(4, 3, 61), UNKNOWN);
    refusedAs(x, x.sheet(-1, 0, -1), UNKNOWN);
    faultIs(x, x.sheet(3, 2, -1), 4);
    refusedAs(x, x.sheet(0, 3, -1), OUTSIDE);
    refusedAs(x, x.sheet(0, -1, 1), OUTSIDE);
    refusedAs(x, x.sheet(0, 0, 61), OUTSIDE);
    refusedAs(x, x.sheet(0, 0, Integer.MAX_VALUE), OUTSIDE);
    Due.due("22: still nothing", x.lose(0), 0);
    Due.due("21: a row", x.sheet(0, 1, 60), 1);
    Due.due("23: its first cell", x.put(0, 0, 6), 1);
    Due.due("23: its last cell", x.put(0, 59, 5), 1);
    faultIs(x, x.put(0, 60, 5), 3);
    faultIs(x, x.sheet(0, 0, -1), 4);
    Due.due("21: a fault leaves the row", x.cell(0, 59, 1), 5);
    Due.due("21: a new row", x.sheet(0, 1, 60), 1);
    Due.due("21: it is 0 at first", x.cell(0, 59, 1), 0);
    Due.due("21: it is 0 at first", x.cell(0, 0, 1), 0);
    Due.due("21: an empty row", x.sheet(0, 0, 0), 1);
    faultIs(x, x.put(0, 0, 1), 3);
    Due.due("22: an empty row is a row", x.lose(0), 1);
    Due.due("22: nothing", x.lose(0), 0);
    Due.due("22: unknown", x.lose(4), UNKNOWN);
    Due.due("22: unknown", x.lose(-1), UNKNOWN);
    x.sheet(1, 2, 3);
    x.put(1, 2, 7);
    x.lose(1);
    x.sheet(1, 2, 3);
    Due.due("21: nothing stays of a lost row", x.cell(1, 2, 2), 0);
    Due.due("22: the others stay", x.lose(2), 0);
  }

  private static void putAndCell() {
    ProphetCover x = new ProphetCover();
    int[] put = {0, 1, -1, 127, 128, 255, 256, -128, -129, 32767, 32768, 65535, -32769, 70001,
        Integer.MAX_VALUE, Integer.MIN_VALUE};
    x.sheet(0, 0, 16);
    x.sheet(1, 1, 16);
    x.sheet(2, 2, 16);
    for (int i = 0; i < put.length; i++) {
      for (int lane = 0; lane < 3; lane++) {
        Due.due("23: put", x.put(lane, i, put[i]), 1);
      }
      Due.due("24: byte " + put[i], x.cell(0, i, 0), (byte) put[i]);
      Due.due("24: short " + put[i], x.cell(1, i, 1), (short) put[i]);
      Due.due("24: int " + put[i], x.cell(2, i, 2), put[i]);
    }
    refusedAs(x, x.put(4, 0, 1), UNKNOWN);
    faultIs(x, x.put(3, 99, 1), 1);
    refusedAs(x, x.put(-1, 0, 1), UNKNOWN);
    faultIs(x, x.put(0, 16, 1), 3);
    faultIs(x, x.put(0, -1, 1), 3);
    faultIs(x, x.put(0, Integer.MAX_VALUE, 1), 3);
    faultIs(x, x.put(0, Integer.MIN_VALUE, 1), 3);
    lostBy(x, x.cell(4, 0, 0), 0);
    lostBy(x, x.cell(0, 16, 0), 3);
    lostBy(x, x.cell(-1, 0, 0), 0);
    lostBy(x, x.cell(0, -1, 0), 3);
    lostBy(x, x.cell(0, 0, 3), 0);
    lostBy(x, x.cell(0, -1, 1), 2);
    lostBy(x, x.cell(0, 0, -1), 0);
    lostBy(x, x.cell(3, -1, 1), 1);
    lostBy(x, x.cell(2, 0, 1), 2);
    Due.due("24: a cell", x.cell(2, 1, 2), 1);
    Due.due("30: no fault", x.fault(), 0);
  }

  private static void lostBy(ProphetCover x, long got, int fault) {
    Due.due("24: lost", got, LOST);
    Due.due("30: the fault of cell", x.fault(), fault);
  }

  private static void isRow(ProphetCover x, int k, int lane, int... due) {
    for (int i = 0; i < due.length; i++) {
      Due.due("25: cell " + i, x.cell(k, i, lane), due[i]);
    }
  }

  private static void copyWithin() {
    for (int lane = 0; lane < 3; lane++) {
      ProphetCover x = new ProphetCover();
      Due.row(x, 0, lane, 1, 2, 3, 4, -5);
      Due.row(x, 1, lane, 9, 9, 9);
      Due.due("25: to the right", x.copy(0, 0, 0, 1, 4), 4);
      isRow(x, 0, lane, 1, 1, 2, 3, 4);
      Due.due("25: to the left", x.copy(0, 1, 0, 0, 4), 4);
      isRow(x, 0, lane, 1, 2, 3, 4, 4);
      Due.due("25: to another", x.copy(0, 2, 1, 0, 3), 3);
      isRow(x, 1, lane, 3, 4, 4);
      isRow(x, 0, lane, 1, 2, 3, 4, 4);
      Due.due("25: none", x.copy(0, 5, 1, 3, 0), 0);
      Due.due("30: no fault", x.fault(), 0);
      isRow(x, 1, lane, 3, 4, 4);
    }
  }

  private static void copyRefusals() {
    ProphetCover x = new ProphetCover();
    Due.row(x, 0, 0, 1, 2, 3);
    Due.row(x, 1, 0, 4, 5);
    Due.row(x, 2, 1, 6, 7);
    faultIs(x, x.copy(3, -1, 0, 0, 0), 1);
    refusedAs(x, x.copy(4, 0, 0, 0, 0), UNKNOWN);
    faultIs(x, x.copy(0, -1, 3, 0, 0), 1);
    refusedAs(x, x.copy(0, 0, 4, 0, 0), UNKNOWN);
    refusedAs(x, x.copy(-1, 0, 0, 0, 0), UNKNOWN);
    refusedAs(x, x.copy(3, 0, -1, 0, 0), UNKNOWN);
    faultIs(x, x.copy(3, 0, 3, 0, 0), 1);
    faultIs(x, x.copy(0, -1, 2, 0, 0), 2);
    faultIs(x, x.copy(2, 0, 0, 0, 0), 2);
    int most = Integer.MAX_VALUE;
    int[][] beyond = {{-1, 0, 0}, {0, -1, 0}, {0, 0, -1}, {4, 0, 0}, {0, 3, 0}, {0, 0, 3}, {2, 0, 2},
        {0, 1, 2}, {most, 0, most}, {0, most, most}, {1, 0, most}, {most, most, most},
        {Integer.MIN_VALUE, 0, 1}, {0, 0, Integer.MIN_VALUE}};
    for (int[] b : beyond) {
      faultIs(x, x.copy(0, b[0], 1, b[1], b[2]), 3);
    }
    isRow(x, 0, 0, 1, 2, 3);
    isRow(x, 1, 0, 4, 5);
    isRow(x, 2, 1, 6, 7);
  }

  private static int left(int... numbers) {
    int trace = 0;
    for (int number : numbers) {
      trace = 31 * trace + number;
    }
    return trace;
  }

  private static void tellAndHear() {
    ProphetCover x = Due.officeBy("w/5;m401;s301;l201;m001");
    Due.due("26: modest", x.tell(0), 4);
    Due.due("29: trace", x.trace(), left(1));
    Due.due("26: sure", x.tell(1), 103);
    Due.due("29: trace", x.trace(), left(1, 2, 1));
    Due.due("26: loud", x.tell(2), 104);
    Due.due("29: trace", x.trace(), left(1, 2, 1, 3, 2, 1, 1));
    Due.due("27: modest", x.hear(0), 0);
    Due.due("27: sure", x.hear(1), 1);
    Due.due("29: trace", x.trace(), left(1, 2, 1, 3, 2, 1, 1, 4, 4));
    Due.due("27: loud", x.hear(2), 20);
    Due.due("27: modest", x.hear(3), 3);
    int after = left(1, 2, 1, 3, 2, 1, 1, 4, 4, 5, 4);
    Due.due("29: trace", x.trace(), after);
    Due.due("26: unknown", x.tell(4), UNKNOWN);
    Due.due("26: unknown", x.tell(-1), UNKNOWN);
    Due.due("27: unknown", x.hear(4), UNKNOWN);
    Due.due("27: unknown", x.hear(-1), UNKNOWN);
    Due.due("29: refusals leave nothing", x.trace(), after);
    Due.due("26: cover 0", x.tell(3), 0);
    Due.due("29: each object has its own", new ProphetCover().trace(), 0);
  }

  private static void as() {
    ProphetCover x = Due.officeBy("w/5;m401;s301;l201");
    for (int p = 0; p < 3; p++) {
      for (int kind = 0; kind < 3; kind++) {
        Due.due("28: as(" + p + ", " + kind + ")", x.as(p, kind), kind <= p ? 1 : -12);
        Due.due("30: its fault", x.fault(), kind <= p ? 0 : 2);
      }
    }
    faultIs(x, x.as(0, 2), 2);
    refusedAs(x, x.as(3, 3), UNKNOWN);
    faultIs(x, x.as(0, 2), 2);
    refusedAs(x, x.as(-1, 0), UNKNOWN);
    refusedAs(x, x.as(0, 3), OUTSIDE);
    refusedAs(x, x.as(2, -1), OUTSIDE);
  }

  private static void faultOfTheLatest() {
    ProphetCover x = Due.officeBy("w/5/1;m401");
    faultIs(x, x.put(0, 0, 0), 1);
    // none of these names a fault
    x.chance(0);
    x.fate(9, 0);
    x.ofProphet(0, 0);
    x.say(0, 99);
    x.paid(0, 0);
    x.total(0);
    x.fair(0, 0);
    x.safe(0);
    x.hold(99);
    x.best(0, 0);
    x.came(0, 0);
    x.reading(0, 0, 0);
    x.back(99);
    x.covers(0);
    x.kinds(0);
    x.sayings(0, 0);
    x.odds(0, 0);
    x.lose(0);
    x.lose(4);
    x.tell(0);
    x.hear(0);
    x.trace();
    x.many(0);
    x.many(9);
    Due.due("30: it stays", x.fault(), 1);
    Due.due("30: it stays", x.fault(), 1);
    Due.due("21: a call that names one", x.sheet(0, 0, 1), 1);
    Due.due("30: it is gone", x.fault(), 0);
    faultIs(x, x.put(0, 1, 0), 3);
    Due.due("23: a call that names one", x.put(0, 0, 0), 1);
    Due.due("30: it is gone", x.fault(), 0);
    faultIs(x, x.put(0, 1, 0), 3);
    Due.due("9: a call that names one", x.years(0, 0, 0, 0, 1, 2), 0);
    Due.due("30: it is gone", x.fault(), 0);
    faultIs(x, x.put(0, 1, 0), 3);
    Due.due("25: a call that names one", x.copy(0, 0, 0, 0, 1), 1);
    Due.due("30: it is gone", x.fault(), 0);
    faultIs(x, x.put(0, 1, 0), 3);
    Due.due("28: a call that names one", x.as(0, 0), 1);
    Due.due("30: it is gone", x.fault(), 0);
    faultIs(x, x.put(0, 1, 0), 3);
    Due.due("2: a call that names one", x.office(3, 0, 0, 9), -109);
    Due.due("30: it is gone", x.fault(), 0);
    faultIs(x, x.put(0, 1, 0), 3);
    Due.due("9: refused", x.years(0, 9, 0, 0, 1, 2), UNKNOWN);
    Due.due("30: it is gone", x.fault(), 0);
  }

  private static void areMany(ProphetCover x, int... due) {
    for (int what = 0; what < due.length; what++) {
      Due.due("31: many(" + what + ")", x.many(what), due[what]);
    }
    Due.due("31: outside", x.many(-1), OUTSIDE);
    Due.due("31: outside", x.many(4), OUTSIDE);
  }

  private static void many() {
    areMany(new ProphetCover(), 0, 0, 0, 0);
    ProphetCover x = Due.officeBy("w/5/1;m403;s331;l229");
    areMany(x, 3, 2, 2, 0);
    x.reading(0, 0, 0);
    x.reading(0, 0, 1);
    x.say(0, 0);
    areMany(x, 3, 2, 1, 2);
    x.say(2, 7);
    x.back(1);
    areMany(x, 3, 2, 2, 1);
  }
}
