/** Calls that are to change nothing: what they answer, what fault() tells, whether all else stays. */
final class Still {
  static final String FOUR = "w/5/2/9;m401;s206;l131;m705";
  private static final int CAST = 2, SIZE = 4;

  private Still() {}

  interface Call {
    long on(ProphetCover x);
  }

  /** Three events, four prophets (of whom one is a fraud), two readings; sheet 2 has nothing. */
  static ProphetCover standing() {
    ProphetCover x = bare();
    Due.office(x, 3, 0, FOUR);
    x.reading(0, 1, 4);
    x.reading(1, 2, 3);
    x.tell(2);
    return x;
  }

  /** No office, but sheets: one of bytes, one of shorts, two that have nothing. */
  static ProphetCover bare() {
    ProphetCover x = new ProphetCover();
    Due.row(x, 0, 0, 0, 1, 7, 8, -1);
    Due.row(x, 1, 1, 300, 0);
    return x;
  }

  /** The call names no faults: it is refused, and fault() stays as well. */
  static void refused(Call call, long due) {
    stays(standing(), call, due, SIZE, SIZE);
  }

  static void refusedBare(Call call, long due) {
    stays(bare(), call, due, SIZE, SIZE);
  }

  /** The call names faults: it is refused, and fault() becomes 0. */
  static void cleared(Call call, long due) {
    stays(standing(), call, due, SIZE, 0);
  }

  static void clearedBare(Call call, long due) {
    stays(bare(), call, due, SIZE, 0);
  }

  /** The call comes to a fault, and fault() tells it. */
  static void comesTo(int number, Call call) {
    stays(standing(), call, -10 - number, number == SIZE ? CAST : SIZE, number);
  }

  /** The same of a call that answers by a long. */
  static void lostBy(int number, Call call) {
    stays(standing(), call, Long.MIN_VALUE, number == SIZE ? CAST : SIZE, number);
  }

  private static void stays(ProphetCover x, Call call, long due, int faultAhead, int faultBehind) {
    String ahead = stateOf(x);
    if (faultAhead == CAST) {
      x.copy(0, 0, 1, 0, 0);
    } else {
      x.sheet(0, 0, -1);
    }
    Due.due("fault() ahead", x.fault(), faultAhead);
    Due.due("the call", call.on(x), due);
    Due.due("fault() behind", x.fault(), faultBehind);
    String behind = stateOf(x);
    Due.holds("all stays: " + ahead + " became " + behind, ahead.equals(behind));
  }

  /** All that can be asked of an object, but for fault(); some 150 calls, so at most twice. */
  static String stateOf(ProphetCover x) {
    StringBuilder text = new StringBuilder();
    for (int what = 0; what < 4; what++) {
      text.append(x.many(what)).append(' ');
    }
    for (int e = 0; e < x.many(1); e++) {
      text.append(x.chance(e)).append(' ');
    }
    for (int p = 0; p < x.many(0); p++) {
      text.append("; ").append(x.covers(p)).append(' ').append(x.kinds(p)).append(' ');
      for (int what = 0; what < 3; what++) {
        text.append(x.ofProphet(p, what)).append(' ');
      }
      for (int e = 0; e < x.many(1); e++) {
        text.append(x.sayings(p, e)).append(' ');
      }
    }
    for (int k = 0; k < 4; k++) {
      text.append(rowOf(x, k));
    }
    return text.append("trace ").append(x.trace()).toString();
  }

  private static String rowOf(ProphetCover x, int k) {
    for (int lane = 0; lane < 3; lane++) {
      StringBuilder text = new StringBuilder("lane " + lane + ": ");
      for (int i = 0; i < 60 && x.cell(k, i, lane) != Long.MIN_VALUE; i++) {
        text.append(x.cell(k, i, lane)).append(' ');
      }
      if (x.fault() != CAST) {
        return text.toString();
      }
    }
    return "none ";
  }
}
