/** A small office that pays prophets for each event that they said and that came. */
public final class ProphetCover {
  public static final int UNKNOWN = -1, OUTSIDE = -2, STATE = -3, FULL = -4, NONE = -9;
  public static final long LOST = Long.MIN_VALUE;

  private static final int FAULT_NULL = 1, FAULT_CAST = 2, FAULT_INDEX = 3, FAULT_SIZE = 4;
  private static final int FAULT_BASE = -10, TEXT_FAULT_BASE = -100;
  private static final int SHEETS = 4, LANES = 3, MOST_CELLS = 60, NOTHING = -1;
  private static final int MOST_EVENTS = 5, MOST_PROPHETS = 4, MOST_READINGS = 8;
  private static final int EVENT_CODES = 2, PROPHET_CODES = 5;
  private static final int MODEST = 0, SURE = 1, LOUD = 2, KINDS = 3;
  private static final int COVERS = 10, TENTHS = 10, MOST_SAID = 31;
  private static final int MOST_AMOUNT = 999, MOST_PREMIUM = 9, MOST_YEARS = 40;
  private static final int YEARS_HAS = 0, YEARS_BROKEN = 1, YEARS_ALL = 2, YEARS_MOST = 3;
  private static final int YEARS_PROPHET = 10;

  /** One of the places for a row. Its cells are made once and used again by every new row. */
  private static final class Sheet {
    final int[] cells = new int[MOST_CELLS];
    int lane = 0;
    int size = NOTHING;

    boolean isEmpty() {
      return size == NOTHING;
    }

    void makeRow(int newLane, int n) {
      for (int i = 0; i < MOST_CELLS; i++) {
        cells[i] = 0;
      }
      lane = newLane;
      size = n;
    }

    boolean reaches(int from, int n) {
      // size - n, as from + n might wrap
      return n >= 0 && from >= 0 && from <= size - n;
    }

    /** The fault to which taking n cells from a place on, as a row of a lane, comes; or 0. */
    int flaw(int asLane, int from, int n) {
      if (isEmpty()) {
        return FAULT_NULL;
      }
      if (asLane != lane) {
        return FAULT_CAST;
      }
      if (n < 0) {
        return FAULT_SIZE;
      }
      return reaches(from, n) ? 0 : FAULT_INDEX;
    }

    void store(int i, int v) {
      if (reaches(i, 1)) {
        cells[i] = cut(v);
      }
    }

    private int cut(int v) {
      if (lane == 0) {
        return (byte) v;
      }
      return lane == 1 ? (short) v : v;
    }
  }

  private static final class Prophet {
    int kind = MODEST;
    int cover = 0;
    int saidSet = 0;
  }

  private static final class Reading {
    int prophet = 0;
    int cameSet = 0;
    int amount = 0;
  }

  private final Sheet[] sheets = new Sheet[SHEETS];
  private final int[] chances = new int[MOST_EVENTS];
  private final Prophet[] prophets = new Prophet[MOST_PROPHETS];
  private final Reading[] readings = new Reading[MOST_READINGS];
  private int eventCount = 0;
  private int prophetCount = 0;
  private int readingCount = 0;
  private int traceNow = 0;
  private int latestFault = 0;

  public ProphetCover() {
    for (int k = 0; k < SHEETS; k++) {
      sheets[k] = new Sheet();
    }
    for (int p = 0; p < MOST_PROPHETS; p++) {
      prophets[p] = new Prophet();
    }
    for (int r = 0; r < MOST_READINGS; r++) {
      readings[r] = new Reading();
    }
  }

  // ---- 1 the office

  public int office(int sheet, int lane, int i, int n) {
    latestFault = 0;
    if (!isSheet(sheet)) {
      return UNKNOWN;
    }
    if (!isLane(lane)) {
      return OUTSIDE;
    }
    int flaw = sheets[sheet].flaw(lane, i, n);
    if (flaw != 0) {
      return faulty(flaw);
    }
    int[] cells = sheets[sheet].cells;
    int end = i + n;
    int place = firstFaultPlace(cells, i, end);
    if (place != NONE) {
      return TEXT_FAULT_BASE - (place - i);
    }
    takeOffice(cells, i, end);
    return prophetCount;
  }

  public int chance(int e) {
    return isEvent(e) ? chances[e] : UNKNOWN;
  }

  public int fate(int e, int v) {
    if (!isEvent(e)) {
      return UNKNOWN;
    }
    if (!isWithin(v, TENTHS - 1)) {
      return OUTSIDE;
    }
    int before = chances[e];
    chances[e] = v;
    return before;
  }

  public int ofProphet(int p, int what) {
    if (!isProphet(p)) {
      return UNKNOWN;
    }
    Prophet one = prophets[p];
    switch (what) {
      case 0:
        return one.kind;
      case 1:
        return one.cover;
      case 2:
        return one.saidSet;
      case 3:
        return paysEach(one.kind, one.cover);
      case 4:
        return isFraud(one.saidSet) ? 1 : 0;
      default:
        return OUTSIDE;
    }
  }

  public int say(int p, int set) {
    if (!isProphet(p)) {
      return UNKNOWN;
    }
    if (!isWithin(set, MOST_SAID)) {
      return OUTSIDE;
    }
    int before = prophets[p].saidSet;
    prophets[p].saidSet = set;
    return before;
  }

  // ---- 2 years

  public int paid(int p, int set) {
    if (!isProphet(p)) {
      return UNKNOWN;
    }
    return isEventSet(set) ? paidTo(p, set) : OUTSIDE;
  }

  public int total(int set) {
    if (!hasOffice()) {
      return STATE;
    }
    return isEventSet(set) ? paidToAll(set) : OUTSIDE;
  }

  public int years(int premium, int sheet, int lane, int i, int n, int what) {
    latestFault = 0;
    if (!isSheet(sheet)) {
      return UNKNOWN;
    }
    if (!isWithin(premium, MOST_PREMIUM) || !isLane(lane) || !isWithin(n, MOST_YEARS)
        || !isYearsQuestion(what)) {
      return OUTSIDE;
    }
    if (!hasOffice()) {
      return STATE;
    }
    int flaw = sheets[sheet].flaw(lane, i, n);
    if (flaw != 0) {
      return faulty(flaw);
    }
    int[] cells = sheets[sheet].cells;
    if (!areEventSets(cells, i, i + n)) {
      return OUTSIDE;
    }
    if (what >= YEARS_PROPHET) {
      return paidOverYears(what - YEARS_PROPHET, cells, i, i + n);
    }
    return officeOverYears(premium, cells, i, i + n, what);
  }

  // ---- 3 premiums

  public long fair(int p, int which) {
    if (!isProphet(p) || !isWithin(which, 1)) {
      return LOST;
    }
    Prophet one = prophets[p];
    int upper = 0;
    for (int e = 0; e < eventCount; e++) {
      upper += chances[e] * payment(one.kind, one.cover, one.saidSet, 1 << e);
    }
    return shareNumber(upper, TENTHS, which);
  }

  public int safe(int p) {
    return isProphet(p) ? paidTo(p, allEvents()) : UNKNOWN;
  }

  public int hold(int n) {
    if (!isWithin(n, TENTHS)) {
      return OUTSIDE;
    }
    if (!hasOffice()) {
      return STATE;
    }
    int all = weightOfAll();
    int least = paidToAll(allEvents());
    for (int set = 0; set < allEvents(); set++) {
      int amount = paidToAll(set);
      int covered = all - weightFrom(amount + 1);
      if (amount < least && TENTHS * covered >= n * all) {
        least = amount;
      }
    }
    return least;
  }

  public int best(int p, int premium) {
    if (!isProphet(p)) {
      return UNKNOWN;
    }
    if (!isWithin(premium, MOST_PREMIUM)) {
      return OUTSIDE;
    }
    int each = paysEach(prophets[p].kind, prophets[p].cover);
    int bestSet = 0;
    int most = 0;
    // the set of all events is left out: it would make a fraud
    for (int set = 1; set < allEvents(); set++) {
      int gain = tenthsGained(each, premium, set);
      if (gain > most) {
        most = gain;
        bestSet = set;
      }
    }
    return bestSet;
  }

  public int came(int v, int what) {
    if (!isWithin(v, MOST_AMOUNT) || !isWithin(what, 1)) {
      return OUTSIDE;
    }
    if (!hasOffice()) {
      return STATE;
    }
    int count = 0;
    int least = NONE;
    for (int set = allEvents(); set >= 0; set--) {
      if (paidToAll(set) == v) {
        count++;
        least = set;
      }
    }
    return what == 0 ? count : least;
  }

  // ---- 4 what was paid

  public int reading(int p, int set, int v) {
    if (!isProphet(p)) {
      return UNKNOWN;
    }
    if (!isEventSet(set) || !isWithin(v, MOST_AMOUNT)) {
      return OUTSIDE;
    }
    if (readingCount >= MOST_READINGS) {
      return FULL;
    }
    Reading one = readings[readingCount];
    one.prophet = p;
    one.cameSet = set;
    one.amount = v;
    readingCount++;
    return readingCount - 1;
  }

  public int back(int k) {
    if (!isWithin(k, readingCount)) {
      return OUTSIDE;
    }
    readingCount -= k;
    return readingCount;
  }

  public int covers(int p) {
    if (!isProphet(p)) {
      return UNKNOWN;
    }
    Prophet one = prophets[p];
    int found = 0;
    for (int cover = 0; cover < COVERS; cover++) {
      if (agreesWithReadings(p, one.kind, cover, one.saidSet)) {
        found |= 1 << cover;
      }
    }
    return found;
  }

  public int kinds(int p) {
    if (!isProphet(p)) {
      return UNKNOWN;
    }
    Prophet one = prophets[p];
    int found = 0;
    for (int kind = 0; kind < KINDS; kind++) {
      if (agreesWithReadings(p, kind, one.cover, one.saidSet)) {
        found |= 1 << kind;
      }
    }
    return found;
  }

  public int sayings(int p, int e) {
    if (!isProphet(p) || !isEvent(e)) {
      return UNKNOWN;
    }
    Prophet one = prophets[p];
    int event = 1 << e;
    int found = 0;
    if (agreesWithReadings(p, one.kind, one.cover, one.saidSet & ~event)) {
      found |= 1;
    }
    if (agreesWithReadings(p, one.kind, one.cover, one.saidSet | event)) {
      found |= 2;
    }
    return found;
  }

  public long odds(int v, int which) {
    if (!hasOffice() || !isWithin(v, MOST_AMOUNT) || !isWithin(which, 1)) {
      return LOST;
    }
    return shareNumber(weightFrom(v), weightOfAll(), which);
  }

  // ---- 5 sheets, parts

  public int sheet(int k, int lane, int n) {
    latestFault = 0;
    if (!isSheet(k)) {
      return UNKNOWN;
    }
    if (!isLane(lane) || n > MOST_CELLS) {
      return OUTSIDE;
    }
    if (n < 0) {
      return faulty(FAULT_SIZE);
    }
    sheets[k].makeRow(lane, n);
    return 1;
  }

  public int lose(int k) {
    if (!isSheet(k)) {
      return UNKNOWN;
    }
    int had = sheets[k].isEmpty() ? 0 : 1;
    sheets[k].size = NOTHING;
    return had;
  }

  public int put(int k, int i, int v) {
    latestFault = 0;
    if (!isSheet(k)) {
      return UNKNOWN;
    }
    int flaw = sheets[k].flaw(sheets[k].lane, i, 1);
    if (flaw != 0) {
      return faulty(flaw);
    }
    sheets[k].store(i, v);
    return 1;
  }

  public long cell(int k, int i, int lane) {
    latestFault = 0;
    if (!isSheet(k) || !isLane(lane)) {
      return LOST;
    }
    latestFault = sheets[k].flaw(lane, i, 1);
    return latestFault == 0 ? sheets[k].cells[i] : LOST;
  }

  public int copy(int k, int i, int other, int j, int n) {
    latestFault = 0;
    if (!isSheet(k) || !isSheet(other)) {
      return UNKNOWN;
    }
    Sheet from = sheets[k];
    Sheet to = sheets[other];
    if (from.isEmpty() || to.isEmpty()) {
      return faulty(FAULT_NULL);
    }
    if (from.lane != to.lane) {
      return faulty(FAULT_CAST);
    }
    if (!from.reaches(i, n) || !to.reaches(j, n)) {
      return faulty(FAULT_INDEX);
    }
    System.arraycopy(from.cells, i, to.cells, j, n);
    return n;
  }

  public int tell(int p) {
    if (!isProphet(p)) {
      return UNKNOWN;
    }
    int cover = prophets[p].cover;
    switch (prophets[p].kind) {
      case MODEST:
        return modestTells(cover);
      case SURE:
        return sureTells(cover);
      default:
        return loudTells(cover);
    }
  }

  public int hear(int p) {
    if (!isProphet(p)) {
      return UNKNOWN;
    }
    return prophets[p].kind == LOUD ? loudIsHeard() : lentBodyHears(p);
  }

  public int as(int p, int kind) {
    latestFault = 0;
    if (!isProphet(p)) {
      return UNKNOWN;
    }
    if (!isWithin(kind, KINDS - 1)) {
      return OUTSIDE;
    }
    // each kind is also one of every kind of a lower number
    return prophets[p].kind >= kind ? 1 : faulty(FAULT_CAST);
  }

  public int trace() {
    return traceNow;
  }

  public int fault() {
    return latestFault;
  }

  public int many(int what) {
    switch (what) {
      case 0:
        return prophetCount;
      case 1:
        return eventCount;
      case 2:
        return countFrauds();
      case 3:
        return readingCount;
      default:
        return OUTSIDE;
    }
  }

  // ---- what is there, what is within

  private static boolean isWithin(int v, int most) {
    return v >= 0 && v <= most;
  }

  private static boolean isSheet(int k) {
    return k >= 0 && k < SHEETS;
  }

  private static boolean isLane(int lane) {
    return lane >= 0 && lane < LANES;
  }

  private static boolean isYearsQuestion(int what) {
    return isWithin(what, YEARS_MOST) || isWithin(what - YEARS_PROPHET, MOST_PROPHETS - 1);
  }

  private boolean isEvent(int e) {
    return e >= 0 && e < eventCount;
  }

  private boolean isProphet(int p) {
    return p >= 0 && p < prophetCount;
  }

  private boolean hasOffice() {
    return prophetCount > 0;
  }

  private static boolean isIn(int set, int e) {
    return (set >> e & 1) == 1;
  }

  private int allEvents() {
    return (1 << eventCount) - 1;
  }

  private boolean isEventSet(int set) {
    return isWithin(set, allEvents());
  }

  private boolean areEventSets(int[] cells, int from, int end) {
    for (int at = from; at < end; at++) {
      if (!isEventSet(cells[at])) {
        return false;
      }
    }
    return true;
  }

  private int faulty(int number) {
    latestFault = number;
    return FAULT_BASE - number;
  }

  // ---- the text

  private static boolean isDigit(int code, int most) {
    return code >= '0' && code <= '0' + most;
  }

  private static int kindOf(int code) {
    switch (code) {
      case 'm':
        return MODEST;
      case 's':
        return SURE;
      case 'l':
        return LOUD;
      default:
        return NONE;
    }
  }

  /** The place of the first code with which no text goes on; NONE for a text. */
  private static int firstFaultPlace(int[] cells, int from, int end) {
    if (from >= end || cells[from] != 'w') {
      return from;
    }
    int at = from + 1;
    for (int e = 0; e < MOST_EVENTS && at < end && cells[at] == '/'; e++) {
      if (at + 1 >= end || !isDigit(cells[at + 1], 9)) {
        return at + 1;
      }
      at += EVENT_CODES;
    }
    int behind = at;
    if (behind == from + 1) {
      return behind;
    }
    for (int p = 0; p < MOST_PROPHETS && at < end; p++) {
      for (int k = 0; k < PROPHET_CODES; k++) {
        if (at + k >= end || !fitsProphet(cells, at, k)) {
          return at + k;
        }
      }
      at += PROPHET_CODES;
    }
    return at == end && at > behind ? NONE : at;
  }

  /** Whether the code k places behind the start of a prophet may stand there. */
  private static boolean fitsProphet(int[] cells, int start, int k) {
    int code = cells[start + k];
    switch (k) {
      case 0:
        return code == ';';
      case 1:
        return kindOf(code) != NONE;
      case 2:
        return isDigit(code, 9);
      case 3:
        return isDigit(code, MOST_SAID / 10);
      default:
        return isDigit(code, cells[start + 3] == '0' + MOST_SAID / 10 ? MOST_SAID % 10 : 9);
    }
  }

  private static int behindEvents(int[] cells, int from, int end) {
    int at = from + 1;
    for (int e = 0; e < MOST_EVENTS && at < end && cells[at] == '/'; e++) {
      at += EVENT_CODES;
    }
    return at;
  }

  private void takeOffice(int[] cells, int from, int end) {
    int behind = behindEvents(cells, from, end);
    readingCount = 0;
    eventCount = 0;
    prophetCount = 0;
    for (int at = from + 2; at < behind && eventCount < MOST_EVENTS; at += EVENT_CODES) {
      chances[eventCount] = cells[at] - '0';
      eventCount++;
    }
    for (int at = behind; at + PROPHET_CODES <= end && prophetCount < MOST_PROPHETS;
        at += PROPHET_CODES) {
      Prophet one = prophets[prophetCount];
      one.kind = kindOf(cells[at + 1]);
      one.cover = cells[at + 2] - '0';
      one.saidSet = 10 * (cells[at + 3] - '0') + cells[at + 4] - '0';
      prophetCount++;
    }
  }

  // ---- what is paid

  private static int paysEach(int kind, int cover) {
    switch (kind) {
      case MODEST:
        return cover;
      case SURE:
        return cover + 1;
      default:
        return 2 * (cover + 1);
    }
  }

  private boolean isFraud(int saidSet) {
    return (saidSet & allEvents()) == allEvents();
  }

  private int payment(int kind, int cover, int saidSet, int cameSet) {
    return isFraud(saidSet) ? 0 : paysEach(kind, cover) * Integer.bitCount(saidSet & cameSet);
  }

  private int paidTo(int p, int cameSet) {
    Prophet one = prophets[p];
    return payment(one.kind, one.cover, one.saidSet, cameSet);
  }

  private int paidToAll(int cameSet) {
    int sum = 0;
    for (int p = 0; p < prophetCount; p++) {
      sum += paidTo(p, cameSet);
    }
    return sum;
  }

  private int countFrauds() {
    int count = 0;
    for (int p = 0; p < prophetCount; p++) {
      if (isFraud(prophets[p].saidSet)) {
        count++;
      }
    }
    return count;
  }

  private int premiumsOfYear(int premium) {
    int sum = 0;
    for (int p = 0; p < prophetCount; p++) {
      sum += premium * Integer.bitCount(prophets[p].saidSet & allEvents());
    }
    return sum;
  }

  private int officeOverYears(int premium, int[] cells, int from, int end, int what) {
    int income = premiumsOfYear(premium);
    int has = 0;
    int broken = NONE;
    int all = 0;
    int most = 0;
    for (int at = from; at < end; at++) {
      int pays = paidToAll(cells[at]);
      has += income - pays;
      if (has < 0 && broken == NONE) {
        broken = at - from;
      }
      all += pays;
      most = Math.max(most, pays);
    }
    switch (what) {
      case YEARS_HAS:
        return has;
      case YEARS_BROKEN:
        return broken;
      case YEARS_ALL:
        return all;
      default:
        return most;
    }
  }

  private int paidOverYears(int p, int[] cells, int from, int end) {
    if (!isProphet(p)) {
      return NONE;
    }
    int sum = 0;
    for (int at = from; at < end; at++) {
      sum += paidTo(p, cells[at]);
    }
    return sum;
  }

  // ---- how likely

  /** How likely a set is to come, counted in parts of weightOfAll(). */
  private int weightOf(int set) {
    int weight = 1;
    for (int e = 0; e < eventCount; e++) {
      weight *= isIn(set, e) ? chances[e] : TENTHS - chances[e];
    }
    return weight;
  }

  private int weightOfAll() {
    int weight = 1;
    for (int e = 0; e < eventCount; e++) {
      weight *= TENTHS;
    }
    return weight;
  }

  /** How likely so much, at least, is paid to all together. */
  private int weightFrom(int amount) {
    int weight = 0;
    for (int set = 0; set <= allEvents(); set++) {
      if (paidToAll(set) >= amount) {
        weight += weightOf(set);
      }
    }
    return weight;
  }

  /** On the mean, ten times what having said a set brings, less its premiums. */
  private int tenthsGained(int each, int premium, int set) {
    int gain = 0;
    for (int e = 0; e < eventCount; e++) {
      if (isIn(set, e)) {
        gain += each * chances[e] - TENTHS * premium;
      }
    }
    return gain;
  }

  private static long shareNumber(int upper, int lower, int which) {
    int divisor = greatestDivisor(upper, lower);
    return (which == 0 ? upper : lower) / divisor;
  }

  private static int greatestDivisor(int a, int b) {
    int larger = a;
    int smaller = b;
    for (int step = 0; step < 100 && smaller != 0; step++) {
      int rest = larger % smaller;
      larger = smaller;
      smaller = rest;
    }
    // never 0, so that it may divide
    return Math.max(larger, 1);
  }

  // ---- what is told

  private boolean agreesWithReadings(int p, int kind, int cover, int saidSet) {
    for (int r = 0; r < readingCount; r++) {
      Reading one = readings[r];
      int amount = one.prophet == p
          ? payment(kind, cover, saidSet, one.cameSet)
          : paidTo(one.prophet, one.cameSet);
      if (amount != one.amount) {
        return false;
      }
    }
    return true;
  }

  private void leaveInTrace(int number) {
    traceNow = 31 * traceNow + number;
  }

  private int modestTells(int cover) {
    leaveInTrace(1);
    return cover;
  }

  private int sureTells(int cover) {
    leaveInTrace(2);
    return modestTells(cover) + 100;
  }

  private int loudTells(int cover) {
    leaveInTrace(3);
    int bySure = sureTells(cover);
    return bySure + modestTells(cover);
  }

  private int lentBodyHears(int p) {
    leaveInTrace(4);
    return p;
  }

  private int loudIsHeard() {
    leaveInTrace(5);
    return 20;
  }
}
