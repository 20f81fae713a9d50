/** Promises 1 to 8: the office, who is paid what. */
public final class OfficeTest {
  private static final int UNKNOWN = -1, OUTSIDE = -2, STATE = -3;
  private static final String FOUR = "w/5/2/9;m401;s206;l131;m705";

  public static void main(String[] args) {
    newObject();
    firstFaults();
    partsOfATextAlone();
    textsThatAreTaken();
    officeRefusals();
    aTextMakesAllAnew();
    aRefusedTextChangesNothing();
    chanceAndFate();
    ofProphetAndSay();
    paidAndTotal();
    Due.end();
  }

  private static void newObject() {
    ProphetCover x = new ProphetCover();
    for (int what = 0; what < 4; what++) {
      Due.due("1: many", x.many(what), 0);
    }
    for (int k = 0; k < 4; k++) {
      Due.due("1: lose", x.lose(k), 0);
      Due.due("1: put into nothing", x.put(k, 0, 1), -11);
    }
    Due.due("1: fault", new ProphetCover().fault(), 0);
    Due.due("1: trace", x.trace(), 0);
    Due.due("1: chance", x.chance(0), UNKNOWN);
    Due.due("1: fate", x.fate(0, 1), UNKNOWN);
    Due.due("1: ofProphet", x.ofProphet(0, 0), UNKNOWN);
    Due.due("1: say", x.say(0, 0), UNKNOWN);
    Due.due("1: paid", x.paid(0, 0), UNKNOWN);
    Due.due("1: total", x.total(0), STATE);
    Due.due("1: total of no set", x.total(1), STATE);
    Due.due("1: fair", x.fair(0, 0), Long.MIN_VALUE);
    Due.due("1: safe", x.safe(0), UNKNOWN);
    Due.due("1: best", x.best(0, 0), UNKNOWN);
    Due.due("1: reading", x.reading(0, 0, 0), UNKNOWN);
    Due.due("1: back", x.back(0), 0);
    Due.due("1: back 1", x.back(1), OUTSIDE);
    Due.due("1: tell", x.tell(0), UNKNOWN);
    Due.due("1: hear", x.hear(0), UNKNOWN);
    Due.due("1: as", x.as(0, 0), UNKNOWN);
    Due.due("1: odds", x.odds(0, 0), Long.MIN_VALUE);
    Due.due("the constants", ProphetCover.LOST, Long.MIN_VALUE);
    Due.due("the constants", ProphetCover.UNKNOWN * 10000 + ProphetCover.OUTSIDE * 1000
        + ProphetCover.STATE * 100 + ProphetCover.FULL * 10 + ProphetCover.NONE, -12349);
  }

  private static void textFault(String text, int place) {
    for (int lane = 0; lane < 3; lane++) {
      Due.due("2: the text " + text, Due.office(new ProphetCover(), 0, lane, text), -100 - place);
    }
  }

  private static void firstFaults() {
    textFault("", 0);
    textFault("x", 0);
    textFault("/5;m401", 0);
    textFault("w", 1);
    textFault("w;m401", 1);
    textFault("ww", 1);
    textFault("w/", 2);
    textFault("w//", 2);
    textFault("w/:", 2);
    textFault("w/5", 3);
    textFault("w/5w", 3);
    textFault("w/55", 3);
    textFault("w/5/", 4);
    textFault("w/5/;", 4);
    textFault("w/1/2/3/4/5", 11);
    textFault("w/1/2/3/4/5/6;m401", 11);
    textFault("w/5;", 4);
    textFault("w/5;x", 4);
    textFault("w/5;M", 4);
    textFault("w/5;m", 5);
    textFault("w/5;mm", 5);
    textFault("w/5;m4", 6);
    textFault("w/5;m44", 6);
    textFault("w/5;m49", 6);
    textFault("w/5;m3", 6);
    textFault("w/5;m33", 7);
    textFault("w/5;m432", 7);
    textFault("w/5;m439", 7);
    textFault("w/5;m43;", 7);
    textFault("w/5;m4/1", 6);
    textFault("w/5;m:01", 5);
    textFault("w/5;m/01", 5);
    textFault("w/5;m40:", 7);
    textFault("w/5;m40/", 7);
    textFault("w/5;m431/", 8);
    textFault("w/5;m431w", 8);
    textFault("w/5;m4311", 8);
    textFault("w/5;m431;", 9);
    textFault("w/5;m431;s2", 11);
    textFault("w/5;m401;m401;m401;m401;", 23);
    textFault("w/5;m401;m401;m401;m401;m401", 23);
    textFault("w/5;m401;m401;m401;m401/", 23);
  }

  /** What stands behind the n cells is no part of the text; at the end of a row there is nothing. */
  private static void partsOfATextAlone() {
    String text = "w/1/2;m401;s206";
    for (int n = 0; n <= text.length(); n++) {
      int due = n == 10 ? 1 : n == 15 ? 2 : -100 - n;
      ProphetCover x = new ProphetCover();
      x.sheet(0, 0, 60);
      x.sheet(1, 0, 60);
      for (int i = 0; i < text.length(); i++) {
        x.put(0, i, text.charAt(i));
        x.put(1, 60 - n + i, text.charAt(i));
      }
      Due.due("2: the first " + n + " codes", x.office(0, 0, 0, n), due);
      Due.due("2: as many at the end of a row", x.office(1, 0, 60 - n, n), due);
    }
  }

  private static void textsThatAreTaken() {
    for (int lane = 0; lane < 3; lane++) {
      Due.due("2: a least text", Due.office(new ProphetCover(), 1, lane, "w/0;m000"), 1);
      Due.due("2: a longest text",
          Due.office(new ProphetCover(), 1, lane, "w/1/2/3/4/5;m401;s931;l029;m419"), 4);
    }
    for (int said = 0; said < 32; said++) {
      ProphetCover x = Due.officeBy("w/0;l9" + said / 10 + said % 10);
      Due.due("2: what is said", x.ofProphet(0, 2), said);
    }
    ProphetCover x = new ProphetCover();
    Due.row(x, 2, 1, 7, 'w', '/', '3', ';', 's', '5', '0', '2', 7);
    Due.due("2: from a place on", x.office(2, 1, 1, 8), 1);
    Due.due("2: its chance", x.chance(0), 3);
    Due.due("2: its cover", x.ofProphet(0, 1), 5);
    Due.due("2: no fault", x.fault(), 0);
    Due.row(x, 2, 2, 'w' + 256, '/', '3', ';', 's', '5', '0', '2');
    Due.due("2: a code is the whole of an int", x.office(2, 2, 0, 8), -100);
    Due.row(x, 2, 1, 'w' + 65536, '/', '3', ';', 's', '5', '0', '2');
    Due.due("2: a code is what is left of a cut number", x.office(2, 1, 0, 8), 1);
  }

  private static void officeFaultIs(ProphetCover x, int got, int number) {
    Due.due("2: a fault", got, -10 - number);
    Due.due("30: the fault of office", x.fault(), number);
  }

  private static void officeRefusals() {
    ProphetCover x = new ProphetCover();
    officeFaultIs(x, x.office(0, 2, -1, -1), 1);
    Due.due("2: unknown ahead of lane", x.office(-1, 3, 0, 0), UNKNOWN);
    Due.due("30: refused", x.fault(), 0);
    Due.due("2: unknown", x.office(4, 0, 0, 0), UNKNOWN);
    officeFaultIs(x, x.office(3, 0, 0, 0), 1);
    Due.due("2: lane", x.office(0, -1, 0, 0), OUTSIDE);
    Due.due("2: lane", x.office(0, 3, 0, 0), OUTSIDE);
    Due.due("30: refused", x.fault(), 0);
    x.sheet(0, 0, 9);
    officeFaultIs(x, x.office(0, 1, -1, -1), 2);
    officeFaultIs(x, x.office(0, 0, -1, -1), 4);
    officeFaultIs(x, x.office(0, 0, 0, Integer.MIN_VALUE), 4);
    officeFaultIs(x, x.office(0, 0, -1, 0), 3);
    officeFaultIs(x, x.office(0, 0, 10, 0), 3);
    officeFaultIs(x, x.office(0, 0, 0, 10), 3);
    officeFaultIs(x, x.office(0, 0, 9, 1), 3);
    officeFaultIs(x, x.office(0, 0, Integer.MAX_VALUE, Integer.MAX_VALUE), 3);
    officeFaultIs(x, x.office(0, 0, 9, Integer.MAX_VALUE), 3);
    officeFaultIs(x, x.office(0, 0, Integer.MIN_VALUE, 1), 3);
    Due.due("2: the end of a row", x.office(0, 0, 9, 0), -100);
    Due.due("30: a text's fault is none of the machine's", x.fault(), 0);
  }

  private static void aTextMakesAllAnew() {
    ProphetCover x = Due.officeBy(FOUR);
    x.reading(0, 1, 4);
    x.tell(0);
    Due.due("2: an office", Due.office(x, 0, 2, "w/7;l302"), 1);
    Due.due("2: prophets anew", x.many(0), 1);
    Due.due("2: events anew", x.many(1), 1);
    Due.due("2: frauds anew", x.many(2), 0);
    Due.due("2: no readings", x.many(3), 0);
    Due.due("2: chances anew", x.chance(0), 7);
    Due.due("2: the others are gone", x.chance(1), UNKNOWN);
    Due.due("2: the others are gone", x.ofProphet(1, 0), UNKNOWN);
    Due.due("2: kind anew", x.ofProphet(0, 0), 2);
    Due.due("2: cover anew", x.ofProphet(0, 1), 3);
    Due.due("2: said anew", x.ofProphet(0, 2), 2);
    Due.due("2: trace stays", x.trace(), 1);
    Due.due("2: sheets stay", x.cell(3, 0, 0), 'w');
  }

  private static void aRefusedTextChangesNothing() {
    ProphetCover x = Due.officeBy(FOUR);
    x.reading(0, 1, 4);
    Due.due("2: a wrong text", Due.office(x, 0, 0, "w/1/2/3/4;l902;"), -115);
    Due.due("2: prophets stay", x.many(0), 4);
    Due.due("2: events stay", x.many(1), 3);
    Due.due("2: readings stay", x.many(3), 1);
    Due.due("2: chances stay", x.chance(0), 5);
    Due.due("2: kinds stay", x.ofProphet(0, 0), 0);
    Due.due("2: covers stay", x.ofProphet(0, 1), 4);
  }

  private static void chanceAndFate() {
    ProphetCover x = Due.officeBy("w/0/2/9;m401");
    Due.due("3: chance", x.chance(0), 0);
    Due.due("3: chance", x.chance(1), 2);
    Due.due("3: chance", x.chance(2), 9);
    Due.due("3: unknown", x.chance(3), UNKNOWN);
    Due.due("3: unknown", x.chance(-1), UNKNOWN);
    Due.due("3: unknown", x.chance(Integer.MAX_VALUE), UNKNOWN);
    Due.due("4: fate", x.fate(1, 9), 2);
    Due.due("4: fate", x.fate(1, 0), 9);
    Due.due("4: fate", x.fate(1, 3), 0);
    Due.due("4: unknown first", x.fate(3, 10), UNKNOWN);
    Due.due("4: unknown", x.fate(-1, 1), UNKNOWN);
    Due.due("4: outside", x.fate(1, 10), OUTSIDE);
    Due.due("4: outside", x.fate(1, -1), OUTSIDE);
    Due.due("4: it stays", x.chance(1), 3);
    Due.due("4: the others stay", x.chance(0), 0);
    Due.due("4: the others stay", x.chance(2), 9);
  }

  private static void isProphet(ProphetCover x, int p, int... due) {
    for (int what = 0; what < due.length; what++) {
      Due.due("5: ofProphet(" + p + ", " + what + ")", x.ofProphet(p, what), due[what]);
    }
  }

  private static void ofProphetAndSay() {
    ProphetCover x = Due.officeBy(FOUR);
    isProphet(x, 0, 0, 4, 1, 4, 0, OUTSIDE);
    isProphet(x, 1, 1, 2, 6, 3, 0, OUTSIDE);
    isProphet(x, 2, 2, 1, 31, 4, 1, OUTSIDE);
    isProphet(x, 3, 0, 7, 5, 7, 0, OUTSIDE);
    Due.due("5: unknown first", x.ofProphet(4, 9), UNKNOWN);
    Due.due("5: unknown", x.ofProphet(-1, 0), UNKNOWN);
    Due.due("5: outside", x.ofProphet(0, -1), OUTSIDE);
    isProphet(Due.officeBy("w/1/1;l923"), 0, 2, 9, 23, 20, 1);
    isProphet(Due.officeBy("w/1/1;l028"), 0, 2, 0, 28, 2, 0);
    isProphet(Due.officeBy("w/1/1;m003"), 0, 0, 0, 3, 0, 1);

    Due.due("6: say", x.say(0, 7), 1);
    isProphet(x, 0, 0, 4, 7, 4, 1);
    Due.due("6: say", x.say(0, 31), 7);
    Due.due("6: say", x.say(0, 0), 31);
    isProphet(x, 0, 0, 4, 0, 4, 0);
    Due.due("6: unknown first", x.say(4, 32), UNKNOWN);
    Due.due("6: unknown", x.say(-1, 0), UNKNOWN);
    Due.due("6: outside", x.say(0, 32), OUTSIDE);
    Due.due("6: outside", x.say(0, -1), OUTSIDE);
    isProphet(x, 0, 0, 4, 0, 4, 0);
    isProphet(x, 3, 0, 7, 5, 7, 0);
  }

  private static void paidAndTotal() {
    ProphetCover x = Due.officeBy("w/0/2/9;m401;s206;l131;l305");
    int[][] due = {{0, 4, 0, 4, 0, 4, 0, 4}, {0, 0, 3, 3, 3, 3, 6, 6}, {0, 0, 0, 0, 0, 0, 0, 0},
        {0, 8, 0, 8, 8, 16, 8, 16}};
    for (int set = 0; set < 8; set++) {
      int all = 0;
      for (int p = 0; p < 4; p++) {
        Due.due("7: paid(" + p + ", " + set + ")", x.paid(p, set), due[p][set]);
        all += due[p][set];
      }
      Due.due("8: total(" + set + ")", x.total(set), all);
    }
    Due.due("7: unknown first", x.paid(4, 8), UNKNOWN);
    Due.due("7: unknown", x.paid(-1, 0), UNKNOWN);
    Due.due("7: outside", x.paid(0, 8), OUTSIDE);
    Due.due("7: outside", x.paid(0, -1), OUTSIDE);
    Due.due("7: outside of a fraud", x.paid(2, 8), OUTSIDE);
    Due.due("8: outside", x.total(8), OUTSIDE);
    Due.due("8: outside", x.total(-1), OUTSIDE);
    Due.due("8: outside", x.total(Integer.MIN_VALUE), OUTSIDE);
    x.say(2, 24);
    Due.due("7: what is not there does not come", x.paid(2, 7), 0);
    x.say(2, 30);
    Due.due("7: no longer a fraud", x.paid(2, 7), 8);
    Due.due("8: no longer a fraud", x.total(7), 34);
  }
}
