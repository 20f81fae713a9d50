import java.util.List;

/** What the document's Terms say of every call: refusals, faults, sets, shares. */
public final class TermsEdgesTest {
  private static final int UNKNOWN = -1, NONE = -9;
  private static final long LOST = Long.MIN_VALUE;
  private static final int NULL = 1, CAST = 2, INDEX = 3, SIZE = 4;

  public static void main(String[] args) throws Exception {
    Edges.run(TermsEdgesTest.class);
  }

  private interface Of {
    long one(ProphetCover x, int number);
  }

  private static void beyond(int count, long due, Of call) {
    String events = "w/1/2/3/4/5".substring(0, 1 + 2 * count);
    String prophets = ";m401;s206;l131;m705".substring(0, 5 * Math.min(count, 4));
    ProphetCover x = Due.officeBy(events + prophets);
    for (int number : new int[] {-1, count, count + 1, Integer.MIN_VALUE, Integer.MAX_VALUE}) {
      Due.due("number " + number + " of " + count, call.one(x, number), due);
    }
    for (int number = 0; number < count; number++) {
      Due.holds(number + " of " + count + " is there", call.one(x, number) != due);
    }
  }

  @Says("UNKNOWN (there is no such EVENT, PROPHET, SHEET, place of a row)")
  static void terms_noSuchEventIsUnknown() {
    List<Of> calls = List.of((x, e) -> x.chance(e), (x, e) -> x.fate(e, 1), (x, e) -> x.sayings(0, e));
    for (Of call : calls) {
      for (int count = 1; count <= 5; count++) {
        beyond(count, UNKNOWN, call);
      }
    }
  }

  @Says("UNKNOWN (there is no such EVENT, PROPHET, SHEET, place of a row)")
  static void terms_noSuchProphetIsUnknown() {
    List<Of> calls = List.of((x, p) -> x.ofProphet(p, 0), (x, p) -> x.say(p, 0),
        (x, p) -> x.paid(p, 0), (x, p) -> x.safe(p), (x, p) -> x.best(p, 0),
        (x, p) -> x.reading(p, 0, 0), (x, p) -> x.covers(p), (x, p) -> x.kinds(p),
        (x, p) -> x.sayings(p, 0), (x, p) -> x.tell(p), (x, p) -> x.hear(p), (x, p) -> x.as(p, 0));
    for (int count = 1; count <= 4; count++) {
      for (Of call : calls) {
        beyond(count, UNKNOWN, call);
      }
      beyond(count, LOST, (x, p) -> x.fair(p, 0));
    }
  }

  @Says("UNKNOWN (there is no such EVENT, PROPHET, SHEET, place of a row)")
  static void terms_noSuchSheetIsUnknown() {
    List<Of> calls = List.of((x, k) -> x.office(k, 0, 0, 0), (x, k) -> x.years(0, k, 0, 0, 0, 0),
        (x, k) -> x.sheet(k, 0, 1), (x, k) -> x.lose(k), (x, k) -> x.put(k, 0, 0),
        (x, k) -> x.copy(k, 0, 0, 0, 0), (x, k) -> x.copy(0, 0, k, 0, 0));
    for (Of call : calls) {
      beyond(4, UNKNOWN, call);
    }
  }

  @Says("of several the first in the order in which a call's line tells them")
  static void terms_everyCallAnswersItsFirstRefusal() {
    Still.cleared(x -> x.office(4, 3, -1, -1), -1);
    Still.cleared(x -> x.office(2, 3, -1, -1), -2);
    Still.refused(x -> x.fate(3, 10), -1);
    Still.refused(x -> x.ofProphet(4, 5), -1);
    Still.refused(x -> x.say(4, 32), -1);
    Still.refused(x -> x.paid(4, 8), -1);
    Still.refusedBare(x -> x.total(1), -3);
    Still.clearedBare(x -> x.years(10, 4, 3, -1, 41, 4), -1);
    Still.clearedBare(x -> x.years(10, 2, 3, -1, 41, 4), -2);
    Still.clearedBare(x -> x.years(0, 2, 0, -1, 1, 0), -3);
    Still.refused(x -> x.best(4, 10), -1);
    Still.refusedBare(x -> x.hold(11), -2);
    Still.refusedBare(x -> x.came(1000, 2), -2);
    Still.refused(x -> x.reading(4, 8, 1000), -1);
    Still.cleared(x -> x.sheet(4, 3, -1), -1);
    Still.cleared(x -> x.sheet(0, 3, -1), -2);
    Still.cleared(x -> x.put(4, -1, 0), -1);
    Still.cleared(x -> x.copy(2, -1, 4, -1, -1), -1);
    Still.cleared(x -> x.as(4, 3), -1);
  }

  @Says("They change nothing (but fault(), of a call that names FAULTS).")
  static void terms_refusedCallsThatNameFaultsChangeFaultAlone() {
    Still.cleared(x -> x.office(-1, 0, 0, 0), -1);
    Still.cleared(x -> x.years(0, -1, 0, 0, 0, 0), -1);
    Still.cleared(x -> x.sheet(-1, 0, 0), -1);
    Still.cleared(x -> x.sheet(0, -1, 0), -2);
    Still.cleared(x -> x.put(-1, 0, 5), -1);
    Still.cleared(x -> x.cell(-1, 0, 0), LOST);
    Still.cleared(x -> x.copy(-1, 0, 0, 0, 1), -1);
    Still.cleared(x -> x.as(-1, 0), -1);
  }

  @Says("They change nothing (but fault(), of a call that names FAULTS).")
  static void terms_otherRefusedCallsChangeNothing() {
    Still.refused(x -> x.chance(-1), -1);
    Still.refused(x -> x.fate(0, 10), -2);
    Still.refused(x -> x.fate(-1, 1), -1);
    Still.refused(x -> x.ofProphet(-1, 0), -1);
    Still.refused(x -> x.say(0, 32), -2);
    Still.refused(x -> x.say(-1, 0), -1);
    Still.refused(x -> x.paid(0, -1), -2);
    Still.refused(x -> x.total(-1), -2);
    Still.refused(x -> x.fair(0, -1), LOST);
    Still.refused(x -> x.safe(-1), -1);
    Still.refused(x -> x.hold(-1), -2);
    Still.refused(x -> x.best(0, -1), -2);
    Still.refused(x -> x.came(-1, 0), -2);
    Still.refused(x -> x.reading(0, 8, 0), -2);
    Still.refused(x -> x.back(3), -2);
    Still.refused(x -> x.covers(-1), -1);
    Still.refused(x -> x.kinds(-1), -1);
    Still.refused(x -> x.sayings(0, -1), -1);
    Still.refused(x -> x.odds(-1, 0), LOST);
    Still.refused(x -> x.lose(-1), -1);
    Still.refused(x -> x.tell(-1), -1);
    Still.refused(x -> x.hear(-1), -1);
    Still.refused(x -> x.many(-1), -2);
  }

  @Says("1 NULL (there is nothing), 2 CAST (it is of another LANE, kind), 3 INDEX")
  static void terms_faultsAnswerTenLessChangeNothingAndAreTold() {
    Still.comesTo(NULL, x -> x.put(2, 0, 5));
    Still.comesTo(CAST, x -> x.copy(0, 0, 1, 0, 1));
    Still.comesTo(CAST, x -> x.as(0, 1));
    Still.comesTo(INDEX, x -> x.put(0, 5, 5));
    Still.comesTo(SIZE, x -> x.sheet(0, 0, -1));
  }

  @Says("4 SIZE (a length below 0)")
  static void terms_sizeIsALengthBelow0() {
    Still.comesTo(SIZE, x -> x.sheet(1, 1, -1));
    Still.comesTo(SIZE, x -> x.sheet(1, 1, Integer.MIN_VALUE));
    Still.comesTo(SIZE, x -> x.office(3, 0, 0, -1));
    Still.comesTo(SIZE, x -> x.office(3, 0, 0, Integer.MIN_VALUE));
    Due.due("0 is a length", Still.standing().sheet(1, 1, 0), 1);
    Due.due("0 is a length", Still.standing().office(3, 0, 0, 0), -100);
  }

  @Says("3 INDEX (of cells from i on also where i is not 0 .. how many there are, if none of them is"
      + " taken, too)")
  static void terms_indexWhereNoneOfTheCellsIsTaken() {
    for (int i : new int[] {-1, 6, 7, Integer.MIN_VALUE, Integer.MAX_VALUE}) {
      Still.comesTo(INDEX, x -> x.office(0, 0, i, 0));
      Still.comesTo(INDEX, x -> x.years(0, 0, 0, i, 0, 0));
      Still.comesTo(INDEX, x -> x.copy(0, i, 3, 0, 0));
      Still.comesTo(INDEX, x -> x.copy(3, 0, 0, i, 0));
    }
    for (int i = 0; i <= 5; i++) {
      ProphetCover x = Still.standing();
      Due.due("office, none from " + i, x.office(0, 0, i, 0), -100);
      Due.due("years, none from " + i, x.years(0, 0, 0, i, 0, 0), 0);
      Due.due("copy, none from " + i, x.copy(0, i, 3, 27, 0), 0);
      Due.due("copy, none to " + i, x.copy(3, 27, 0, i, 0), 0);
      Due.due("fault()", x.fault(), 0);
    }
  }

  @Says("3 INDEX (of cells from i on also where i is not 0 .. how many there are, if none of them is"
      + " taken, too)")
  static void terms_indexInAnEmptyRow() {
    ProphetCover x = Still.standing();
    x.sheet(0, 0, 0);
    Due.due("office from 0", x.office(0, 0, 0, 0), -100);
    Due.due("office from 1", x.office(0, 0, 1, 0), -13);
    Due.due("office of one", x.office(0, 0, 0, 1), -13);
    Due.due("years from 0", x.years(0, 0, 0, 0, 0, 0), 0);
    Due.due("years from 1", x.years(0, 0, 0, 1, 0, 0), -13);
    Due.due("years of one", x.years(0, 0, 0, 0, 1, 0), -13);
    Due.due("copy from 0 to 0", x.copy(0, 0, 0, 0, 0), 0);
    Due.due("copy from 1", x.copy(0, 1, 3, 0, 0), -13);
    Due.due("copy to 1", x.copy(3, 0, 0, 1, 0), -13);
    Due.due("put", x.put(0, 0, 1), -13);
    Due.due("cell", x.cell(0, 0, 0), LOST);
    Due.due("fault()", x.fault(), 3);
  }

  @Says("Of a call the first that is come to, in the order told")
  static void terms_everyCallComesToItsFirstFault() {
    Still.comesTo(NULL, x -> x.office(2, 1, -1, -1));
    Still.comesTo(CAST, x -> x.office(3, 1, -1, -1));
    Still.comesTo(SIZE, x -> x.office(3, 0, -1, -1));
    Still.comesTo(NULL, x -> x.years(0, 2, 1, -1, 1, 0));
    Still.comesTo(CAST, x -> x.years(0, 0, 1, -1, 1, 0));
    Still.comesTo(INDEX, x -> x.years(0, 0, 0, 3, 3, 0));
    Still.comesTo(NULL, x -> x.put(2, -1, 5));
    Still.lostBy(NULL, x -> x.cell(2, -1, 1));
    Still.lostBy(CAST, x -> x.cell(0, -1, 1));
    Still.comesTo(NULL, x -> x.copy(2, -1, 1, -1, -1));
    Still.comesTo(NULL, x -> x.copy(1, -1, 2, -1, -1));
    Still.comesTo(CAST, x -> x.copy(0, -1, 1, -1, -1));
  }

  @Says("it answers -10 less it (LOST, where a long is answered, as for refusals)")
  static void terms_whereALongIsAnsweredItIsLost() {
    Still.lostBy(NULL, x -> x.cell(2, 0, 0));
    Still.lostBy(CAST, x -> x.cell(0, 0, 2));
    Still.lostBy(INDEX, x -> x.cell(0, 5, 0));
    Still.cleared(x -> x.cell(4, 0, 0), LOST);
    Still.cleared(x -> x.cell(0, 0, 3), LOST);
    Still.refused(x -> x.fair(4, 0), LOST);
    Still.refused(x -> x.fair(0, 2), LOST);
    Still.refused(x -> x.odds(1000, 0), LOST);
    Still.refusedBare(x -> x.odds(0, 0), LOST);
    Due.due("LOST", ProphetCover.LOST, Long.MIN_VALUE);
  }

  @Says("NONE is -9.")
  static void terms_noneIsMinus9() {
    Due.due("NONE", ProphetCover.NONE, -9);
    ProphetCover x = Due.officeBy("w/5;m401");
    Due.due("no year is BROKEN", x.years(9, 3, 0, 0, 0, 1), NONE);
    Due.due("no such PROPHET", x.years(9, 3, 0, 0, 0, 11), NONE);
    Due.due("no such set", x.came(1, 1), NONE);
  }

  @Says("public static final int UNKNOWN = -1, OUTSIDE = -2, STATE = -3, FULL = -4, NONE = -9;")
  static void terms_refusalsAreThoseOfTheFace() {
    Due.due("UNKNOWN", ProphetCover.UNKNOWN, -1);
    Due.due("OUTSIDE", ProphetCover.OUTSIDE, -2);
    Due.due("STATE", ProphetCover.STATE, -3);
    Due.due("FULL", ProphetCover.FULL, -4);
  }

  @Says("Sets are told as bits (bit k for number k).")
  static void terms_setsAreBits() {
    ProphetCover x = Due.officeBy("w/1/2/3/4/5;m417");
    for (int e = 0; e < 5; e++) {
      Due.due("event " + e + " alone came", x.paid(0, 1 << e), e == 0 || e == 4 ? 4 : 0);
    }
    x.reading(0, 16, 4);
    Due.due("cover 4 alone", x.covers(0), 1 << 4);
    Due.due("kind 0 alone", x.kinds(0), 1 << 0);
    Due.due("1 alone, they SAID it", x.sayings(0, 4), 1 << 1);
  }

  private static long divisor(long a, long b) {
    return b == 0 ? a : divisor(b, a % b);
  }

  @Says("Shares are told as upper and lower number (above 0) in least terms.")
  static void terms_sharesAreInLeastTerms() {
    ProphetCover x = Due.officeBy("w/8/5/6/4/2;l915;s030;m931");
    for (int v = 0; v <= 120; v++) {
      long lower = x.odds(v, 1);
      Due.holds("odds of " + v, lower > 0 && divisor(x.odds(v, 0), lower) == 1);
    }
    for (int p = 0; p < 3; p++) {
      long lower = x.fair(p, 1);
      Due.holds("fair of " + p, lower > 0 && divisor(x.fair(p, 0), lower) == 1);
    }
  }

  @Says("Shares are told as upper and lower number (above 0) in least terms.")
  static void terms_aShareOfNothingIs0Of1AndOfAll1Of1() {
    ProphetCover x = Due.officeBy("w/5/5;m000");
    Due.due("nothing, upper", x.fair(0, 0), 0);
    Due.due("nothing, lower", x.fair(0, 1), 1);
    Due.due("never, upper", x.odds(1, 0), 0);
    Due.due("never, lower", x.odds(1, 1), 1);
    Due.due("always, upper", x.odds(0, 0), 1);
    Due.due("always, lower", x.odds(0, 1), 1);
  }

  @Says("Nothing is promised beyond the answers and state changes described above")
  static void terms_callsThatAskChangeNothing() {
    ProphetCover x = Still.standing();
    String ahead = Still.stateOf(x);
    for (int which = 0; which < 2; which++) {
      x.fair(0, which);
      x.came(11, which);
      x.odds(11, which);
    }
    for (int what : new int[] {0, 1, 2, 3, 10, 13}) {
      x.years(1, 0, 0, 0, 3, what);
    }
    x.paid(0, 7);
    x.total(7);
    x.safe(0);
    x.hold(5);
    x.best(0, 1);
    x.covers(0);
    x.kinds(0);
    x.sayings(0, 0);
    x.as(2, 1);
    x.fault();
    x.trace();
    x.back(0);
    x.office(3, 0, 0, 26);
    x.copy(0, 0, 3, 0, 0);
    Due.holds("all stays", Still.stateOf(x).equals(ahead));
  }

  @Says("An object is used for at most 512 calls after it has been made")
  static void terms_theLastOf512CallsAnswersToo() {
    ProphetCover x = new ProphetCover();
    int trace = 0;
    Due.office(x, 0, 0, "w/5;m401");
    for (int call = 10; call < 511; call++) {
      trace = 31 * trace + 1;
      Due.due("tell, call " + (call + 1), x.tell(0), 4);
    }
    Due.due("the last call", x.trace(), trace);
  }
}
