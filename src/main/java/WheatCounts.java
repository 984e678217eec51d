import java.util.Arrays;

/** An estate whose wheat grows by those who look at it. The words in capitals are the document's. */
public final class WheatCounts {
  private static final int LOW = -1000000000;
  private static final int BEYOND = 1;
  private static final int NONE = 2;
  private static final int STATE = 3;
  private static final int FULL = 4;
  private static final int KIND = 5;

  private static final int FEWEST_CELLS = 3;
  private static final int MOST_CELLS = 10;
  private static final int FIRST_CELLS = 6;
  private static final int MOST_PEOPLE = 8;
  private static final int MOST_GRAINS = 99999;
  private static final int MOST_WEEDS = 99;
  private static final int MOST_FOG = 9;
  private static final int MOST_HOUR = 9999;
  private static final int MOST_TOGETHER = 999999;
  private static final int MOST_BEHIND = 50;
  private static final int MOST_LOOSE = 40;
  private static final int MOST_LEAD_HOURS = 3;
  private static final int MOST_TAPE = 50;
  private static final int MOST_WAITING = 20;
  private static final int MOST_TRACE = 40;
  private static final int SHEETS = 4;
  private static final int MOST_NUMBERS = 40;
  private static final int SIGHT = 0;
  private static final int THEFT = 1;

  private final Estate estate;
  private final Estate thought;
  private final Estate kept;
  private int timesKept;
  private final Reader reader;
  private final Leading leading;
  private final Voices voices;
  private final Sheet[] sheets;
  private final int[] reaches;
  private final int[] views;
  private final int[] errors;

  public WheatCounts() {
    estate = new Estate();
    thought = new Estate();
    kept = new Estate();
    reader = new Reader();
    leading = new Leading();
    voices = new Voices();
    sheets = new Sheet[SHEETS];
    for (int i = 0; i < SHEETS; i++) {
      sheets[i] = new Sheet();
    }
    reaches = new int[MOST_PEOPLE];
    views = new int[MOST_PEOPLE];
    errors = new int[KIND + 1];
  }

  // ---- the field, people

  public int field(int n) {
    if (!within(n, FEWEST_CELLS, MOST_CELLS)) {
      return error(BEYOND);
    }
    if (estate.people > 0) {
      return error(STATE);
    }
    int was = estate.cells;
    estate.startAnew(n);
    return was;
  }

  public int sow(int cell, int what, int v) {
    if (!isCell(cell) || !within(what, 0, 1) || !within(v, 0, what == 0 ? MOST_GRAINS : MOST_WEEDS)) {
      return error(BEYOND);
    }
    int[] row = what == 0 ? estate.grains : estate.weeds;
    int was = row[cell];
    row[cell] = v;
    return was;
  }

  public int ofCell(int cell, int what) {
    if (!isCell(cell)) {
      return error(BEYOND);
    }
    switch (what) {
      case 0: return estate.grains[cell];
      case 1: return estate.weeds[cell];
      case 2: return estate.whoSee(cell);
      case 3: return estate.whoAreAt(cell);
      default: return error(BEYOND);
    }
  }

  public int lay(int what, int v) {
    if (!within(what, 0, 2) || !within(v, 0, mostLaid(what))) {
      return error(BEYOND);
    }
    int was;
    if (what == 0) {
      was = estate.hedges;
      estate.hedges = v;
    } else if (what == 1) {
      was = estate.lean;
      estate.lean = v;
    } else {
      was = estate.fog;
      estate.fog = v;
    }
    return was;
  }

  private int mostLaid(int what) {
    switch (what) {
      case 0: return (1 << estate.cells - 1) - 1;
      case 1: return (1 << estate.cells) - 1;
      default: return MOST_FOG;
    }
  }

  public int person(int km, int cell) {
    if (!isKindAndNumber(km) || !isCell(cell)) {
      return error(BEYOND);
    }
    if (estate.people >= MOST_PEOPLE) {
      return error(FULL);
    }
    return estate.addOne(km / 10, km % 10, cell);
  }

  public int ofPerson(int person, int what) {
    if (!isPerson(person)) {
      return error(BEYOND);
    }
    switch (what) {
      case 0: return estate.kind[person];
      case 1: return estate.m[person];
      case 2: return estate.at[person];
      case 3: return estate.way[person];
      case 4: return estate.sightIn(person, estate.fog, estate.hour);
      case 5: return Kinds.countsOf(estate.kind[person], estate.m[person]);
      case 6: return estate.takesFrom(person, estate.grains[estate.at[person]], estate.hour);
      case 7: return estate.seenBy(person);
      default: return error(BEYOND);
    }
  }

  public int lead(int person, int what, int v) {
    if (!isPerson(person) || !within(what, 0, 1)
        || !(what == 0 ? isCell(v) : within(v, -1, 1))) {
      return error(BEYOND);
    }
    int[] row = what == 0 ? estate.at : estate.way;
    int was = row[person];
    row[person] = v;
    return was;
  }

  public int become(int person, int km) {
    if (!isPerson(person) || !isKindAndNumber(km)) {
      return error(BEYOND);
    }
    int was = estate.kind[person];
    estate.kind[person] = km / 10;
    estate.m[person] = km % 10;
    return was;
  }

  public int as(int person, int kind) {
    if (!isPerson(person) || !within(kind, 0, Kinds.LAST)) {
      return error(BEYOND);
    }
    if (!Kinds.isOneOf(estate.kind[person], kind)) {
      return error(KIND);
    }
    return estate.m[person];
  }

  // ---- texts

  public int feed(long word, int n) {
    if (!within(n, 1, 8)) {
      return error(BEYOND);
    }
    if (estate.tape.size + n > MOST_TAPE) {
      return error(FULL);
    }
    for (int i = 0; i < n; i++) {
      estate.tape.add((int) (word >>> 8 * i & 255));
    }
    return estate.tape.size;
  }

  public int text(int use) {
    if (!within(use, SIGHT, THEFT)) {
      return error(BEYOND);
    }
    int fault = reader.faultOf(estate.tape, use == SIGHT ? "mfh" : "mgh");
    estate.tape.clear();
    if (fault >= 0) {
      return -10 - fault;
    }
    if (use == SIGHT) {
      estate.sightText = reader.textRead();
    } else {
      estate.theftText = reader.textRead();
    }
    return 1;
  }

  public int law(int use, int a, int b, int c) {
    if (!within(use, SIGHT, THEFT)) {
      return error(BEYOND);
    }
    return use == SIGHT ? estate.sightGiven(a, b, c) : estate.theftGiven(a, b, c);
  }

  // ---- hours, evenings

  public int hours(int n) {
    if (!within(n, 1, MOST_BEHIND)) {
      return error(BEYOND);
    }
    if (estate.hour + n > MOST_HOUR) {
      return error(STATE);
    }
    for (int i = 0; i < n; i++) {
      estate.passHour();
    }
    return estate.together();
  }

  public int loose(int n) {
    if (!within(n, 1, MOST_LOOSE)) {
      return error(BEYOND);
    }
    if (estate.hour + n > MOST_HOUR) {
      return error(STATE);
    }
    for (int i = 0; i < n; i++) {
      estate.turnOneByDraws();
      estate.passHour();
    }
    return estate.together();
  }

  public int evening() {
    estate.addUpLeaning();
    return estate.together();
  }

  public int hail(int v) {
    if (!within(v, 2, 9)) {
      return error(BEYOND);
    }
    estate.divideGrains(v);
    return estate.together();
  }

  // ---- what would be

  public int then(int n, int what) {
    if (!within(n, 0, MOST_BEHIND) || !within(what, -1, estate.cells - 1)) {
      return error(BEYOND);
    }
    thought.takeOver(estate);
    for (int i = 0; i < n; i++) {
      thought.passHour();
    }
    return what < 0 ? thought.stolen : thought.grains[what];
  }

  public int full(int v) {
    if (!within(v, 0, MOST_TOGETHER)) {
      return error(BEYOND);
    }
    thought.takeOver(estate);
    for (int i = 0; i <= MOST_BEHIND; i++) {
      if (thought.together() >= v) {
        return i;
      }
      thought.passHour();
    }
    return error(NONE);
  }

  public int leads(int cell, int v, int n, int what) {
    if (!isCell(cell) || !within(v, 0, MOST_GRAINS) || !within(n, 0, MOST_LEAD_HOURS)
        || !within(what, -1, Leading.LAST)) {
      return error(BEYOND);
    }
    if (!leading.isFound(estate, cell, v, n)) {
      return error(NONE);
    }
    return what < 0 ? leading.moved : leading.row[what];
  }

  public int sums(int v, int what) {
    if (!within(v, 0, MOST_TOGETHER) || !within(what, 0, 1)) {
      return error(BEYOND);
    }
    int many = 0;
    int least = -1;
    for (int set = (1 << estate.cells) - 1; set >= 0; set--) {
      if (estate.grainsIn(set) == v) {
        many++;
        least = set;
      }
    }
    return manyOrLeast(what, many, least);
  }

  public int looked(int sheet, int what) {
    if (!isSheet(sheet) || !within(what, 0, 1)) {
      return error(BEYOND);
    }
    if (sheets[sheet].isMissing() || sheets[sheet].size != estate.cells) {
      return error(NONE);
    }
    lookAround();
    int many = 0;
    int least = -1;
    for (int set = (1 << estate.people) - 1; set >= 0; set--) {
      if (growsAs(set, sheets[sheet])) {
        many++;
        least = set;
      }
    }
    return manyOrLeast(what, many, least);
  }

  private int manyOrLeast(int what, int many, int least) {
    if (what == 0) {
      return many;
    }
    return least < 0 ? error(NONE) : least;
  }

  /** Whether a set of the PEOPLE alone, with the views just looked up, makes CELLS grow as a SHEET tells. */
  private boolean growsAs(int set, Sheet sheet) {
    for (int cell = 0; cell < estate.cells && cell < sheet.size; cell++) {
      int counted = 0;
      for (int p = 0; p < estate.people && p < views.length; p++) {
        if (has(set, p) && has(views[p], cell)) {
          counted += Kinds.countsOf(estate.kind[p], estate.m[p]);
        }
      }
      if (counted / 2 != sheet.numbers[cell]) {
        return false;
      }
    }
    return true;
  }

  private void lookAround() {
    for (int p = 0; p < estate.people && p < views.length; p++) {
      views[p] = estate.seenBy(p);
    }
  }

  public int watch() {
    lookAround();
    int all = (1 << estate.cells) - 1;
    int best = -1;
    for (int set = 0; set < 1 << estate.people; set++) {
      if (isFewer(set, best) && seenTogether(set) == all) {
        best = set;
      }
    }
    return best < 0 ? error(NONE) : best;
  }

  private int seenTogether(int set) {
    int seen = 0;
    for (int p = 0; p < estate.people && p < views.length; p++) {
      if (has(set, p)) {
        seen |= views[p];
      }
    }
    return seen;
  }

  public int hide(int cell) {
    if (!isCell(cell)) {
      return error(BEYOND);
    }
    measureReaches(estate.fog);
    int best = -1;
    for (int set = 0; set < 1 << estate.cells - 1; set++) {
      if (isFewer(set, best) && !estate.isSeen(cell, reaches, estate.hedges | set)) {
        best = set;
      }
    }
    return best < 0 ? error(NONE) : best;
  }

  private static boolean isFewer(int set, int best) {
    return best < 0 || Integer.bitCount(set) < Integer.bitCount(best);
  }

  private void measureReaches(int fog) {
    for (int p = 0; p < estate.people && p < reaches.length; p++) {
      reaches[p] = estate.sightIn(p, fog, estate.hour);
    }
  }

  public int gains(int person, int n) {
    if (!isPerson(person) || !within(n, 0, MOST_BEHIND)) {
      return error(BEYOND);
    }
    thought.takeOver(estate);
    int with = togetherBehind(n);
    thought.takeOver(estate);
    thought.leaveOut(person);
    return with - togetherBehind(n);
  }

  private int togetherBehind(int n) {
    for (int i = 0; i < n; i++) {
      thought.passHour();
    }
    return thought.together();
  }

  public int odds(int cell, int part) {
    if (!isCell(cell) || !within(part, 0, 1)) {
      return error(BEYOND);
    }
    int seen = 0;
    for (int fog = 0; fog <= MOST_FOG; fog++) {
      measureReaches(fog);
      if (estate.isSeen(cell, reaches, estate.hedges)) {
        seen++;
      }
    }
    int ways = MOST_FOG + 1;
    int shared = commonDivisor(ways, seen);
    return (part == 0 ? seen : ways) / shared;
  }

  /** The greatest number from 1 to a that divides a and b. */
  private static int commonDivisor(int a, int b) {
    for (int d = a; d > 1; d--) {
      if (a % d == 0 && b % d == 0) {
        return d;
      }
    }
    return 1;
  }

  // ---- draws, voices, sheets, images, what is told

  public int seed(int v) {
    int was = estate.z;
    estate.z = v;
    return was;
  }

  public int voice(int person, int act, int x) {
    if (!isPerson(person) || !within(act, 0, Voices.LAST_ACT)) {
      return error(BEYOND);
    }
    voices.begin(estate.kind[person], person, estate.m[person]);
    return voices.answer(act, x);
  }

  public int trace(int i) {
    if (!within(i, 0, voices.bodies.size - 1)) {
      return error(NONE);
    }
    return voices.bodies.get(i);
  }

  public int sheet(int sheet, int bits, int n) {
    if (!isSheet(sheet) || !(bits == 0 || bits == 8 || bits == 16 || bits == 32)) {
      return error(BEYOND);
    }
    if (bits != 0 && n < 0) {
      return error(STATE);
    }
    if (bits != 0 && n > MOST_NUMBERS) {
      return error(BEYOND);
    }
    sheets[sheet].startAnew(bits, bits == 0 ? 0 : n);
    return 1;
  }

  public int put(int sheet, int i, int v) {
    if (!isSheet(sheet)) {
      return error(BEYOND);
    }
    if (sheets[sheet].isMissing()) {
      return error(NONE);
    }
    if (!within(i, 0, sheets[sheet].size - 1)) {
      return error(BEYOND);
    }
    sheets[sheet].set(i, v);
    return 1;
  }

  public int move(int sheet, int i, int other, int j, int n) {
    if (!isSheet(sheet) || !isSheet(other)) {
      return error(BEYOND);
    }
    Sheet from = sheets[sheet];
    Sheet to = sheets[other];
    if (from.isMissing() || to.isMissing()) {
      return error(NONE);
    }
    if (from.bits != to.bits) {
      return error(KIND);
    }
    if (n < 0 || !within(i, 0, from.size - n) || !within(j, 0, to.size - n)) {
      return error(BEYOND);
    }
    System.arraycopy(from.numbers, i, to.numbers, j, n);
    return n;
  }

  public int weeds(int sheet) {
    if (!isSheet(sheet)) {
      return error(BEYOND);
    }
    Sheet told = sheets[sheet];
    if (told.isMissing()) {
      return error(NONE);
    }
    int most = Math.min(told.size, estate.cells);
    for (int i = 0; i < most; i++) {
      if (!within(told.numbers[i], 0, MOST_WEEDS)) {
        return i;
      }
      estate.weeds[i] = told.numbers[i];
    }
    return most;
  }

  public int judge(int sheet) {
    if (!isSheet(sheet)) {
      return error(BEYOND);
    }
    Sheet told = sheets[sheet];
    if (told.isMissing()) {
      return error(NONE);
    }
    int both = Math.min(told.size, estate.cells);
    for (int i = 0; i < both; i++) {
      if (told.numbers[i] != estate.grains[i]) {
        return i;
      }
    }
    return told.size == estate.cells ? -1 : both;
  }

  public int image() {
    kept.takeOver(estate);
    timesKept++;
    return timesKept;
  }

  public int restore() {
    if (timesKept == 0) {
      return error(NONE);
    }
    estate.takeOver(kept);
    return estate.hour;
  }

  public int tell(int v) {
    if (estate.waiting.size >= MOST_WAITING) {
      return error(FULL);
    }
    estate.waiting.add(v);
    return estate.waiting.size;
  }

  public int check() {
    int answer = 0;
    thought.takeOver(estate);
    for (int i = 0; i < estate.waiting.size && answer == 0; i++) {
      thought.passHour();
      if (thought.together() != estate.waiting.get(i)) {
        answer = 1 + i;
      }
    }
    estate.waiting.clear();
    return answer;
  }

  public int count(int what) {
    switch (what) {
      case 0: return estate.cells;
      case 1: return estate.people;
      case 2: return estate.hour;
      case 3: return estate.hedges;
      case 4: return estate.lean;
      case 5: return estate.fog;
      case 6: return estate.stolen;
      case 7: return estate.together();
      case 8: return estate.tape.size;
      case 9: return estate.waiting.size;
      case 10: return voices.bodies.size;
      case 11: return estate.z;
      default: return error(BEYOND);
    }
  }

  public int told(int k) {
    if (!within(k, BEYOND, KIND)) {
      return error(BEYOND);
    }
    return errors[k];
  }

  // ---- what the acts ask first

  private int error(int k) {
    if (within(k, BEYOND, KIND)) {
      errors[k]++;
    }
    return LOW - k;
  }

  private static boolean within(int v, int least, int most) {
    return v >= least && v <= most;
  }

  private static int held(int v, int most) {
    if (v < 0) {
      return 0;
    }
    return v > most ? most : v;
  }

  private static boolean has(int set, int k) {
    return (set >> k & 1) != 0;
  }

  private boolean isCell(int cell) {
    return within(cell, 0, estate.cells - 1);
  }

  private boolean isPerson(int person) {
    return within(person, 0, estate.people - 1);
  }

  private static boolean isKindAndNumber(int km) {
    return within(km, 0, 10 * Kinds.LAST + 9);
  }

  private static boolean isSheet(int sheet) {
    return within(sheet, 0, SHEETS - 1);
  }

  /** What one of a KIND does with what the KIND above does. */
  static final class Kinds {
    static final int LOOKER = 0;
    static final int LOVER = 1;
    static final int SCARECROW = 2;
    static final int THIEF = 3;
    static final int BRIDE = 4;
    static final int MIRROR = 5;
    static final int STEWARD = 6;
    static final int LAST = 6;
    private static final int[] ABOVE = {-1, LOOKER, LOOKER, LOOKER, LOVER, SCARECROW, THIEF};

    /** The KIND above; -1 if there is none. */
    static int above(int kind) {
      return within(kind, 0, LAST) ? ABOVE[kind] : -1;
    }

    static boolean isOneOf(int kind, int other) {
      int k = kind;
      for (int step = 0; step <= LAST && k >= 0; step++) {
        if (k == other) {
          return true;
        }
        k = above(k);
      }
      return false;
    }

    static int sightOf(int kind, int m, int given) {
      switch (kind) {
        case SCARECROW:
        case MIRROR: return given / 2;
        case BRIDE: return given + 1;
        case STEWARD: return given + m % 3;
        default: return given;
      }
    }

    static int countsOf(int kind, int m) {
      switch (kind) {
        case LOVER:
        case BRIDE: return 4;
        case SCARECROW: return 1;
        case THIEF: return 0;
        case MIRROR: return 1 + m % 2;
        default: return 2;
      }
    }

    static int takesOf(int kind, int given) {
      switch (kind) {
        case THIEF: return given;
        case STEWARD: return given / 2;
        default: return 0;
      }
    }
  }

  /** A row of numbers that grows up to a length told at its making. */
  static final class Row {
    final int[] numbers;
    int size;

    Row(int most) {
      numbers = new int[Math.max(0, most)];
    }

    void add(int v) {
      if (size < numbers.length) {
        numbers[size] = v;
        size++;
      }
    }

    /** The number at a place; 0 where there is none. */
    int get(int i) {
      return i >= 0 && i < size ? numbers[i] : 0;
    }

    /** The latest number; 0 where there is none. */
    int last() {
      return size > 0 && size <= numbers.length ? numbers[size - 1] : 0;
    }

    int removeLast() {
      int was = last();
      if (size > 0) {
        size--;
      }
      return was;
    }

    void clear() {
      size = 0;
    }

    void takeOver(Row other) {
      clear();
      for (int i = 0; i < other.size; i++) {
        add(other.get(i));
      }
    }
  }

  /** All that an IMAGE keeps: the field, the PEOPLE, the TEXTS, THE TAPE, z, the numbers that wait. */
  static final class Estate {
    int cells;
    final int[] grains;
    final int[] weeds;
    final int[] counted;
    int hedges;
    int lean;
    int fog;
    int hour;
    int stolen;
    int people;
    final int[] kind;
    final int[] m;
    final int[] at;
    final int[] way;
    Text sightText;
    Text theftText;
    final Row tape;
    final Row waiting;
    int z;

    Estate() {
      cells = FIRST_CELLS;
      grains = new int[MOST_CELLS];
      weeds = new int[MOST_CELLS];
      counted = new int[MOST_CELLS];
      kind = new int[MOST_PEOPLE];
      m = new int[MOST_PEOPLE];
      at = new int[MOST_PEOPLE];
      way = new int[MOST_PEOPLE];
      tape = new Row(MOST_TAPE);
      waiting = new Row(MOST_WAITING);
      z = 1;
    }

    void takeOver(Estate other) {
      cells = other.cells;
      System.arraycopy(other.grains, 0, grains, 0, MOST_CELLS);
      System.arraycopy(other.weeds, 0, weeds, 0, MOST_CELLS);
      hedges = other.hedges;
      lean = other.lean;
      fog = other.fog;
      hour = other.hour;
      stolen = other.stolen;
      people = other.people;
      System.arraycopy(other.kind, 0, kind, 0, MOST_PEOPLE);
      System.arraycopy(other.m, 0, m, 0, MOST_PEOPLE);
      System.arraycopy(other.at, 0, at, 0, MOST_PEOPLE);
      System.arraycopy(other.way, 0, way, 0, MOST_PEOPLE);
      sightText = other.sightText;
      theftText = other.theftText;
      tape.takeOver(other.tape);
      waiting.takeOver(other.waiting);
      z = other.z;
    }

    void startAnew(int n) {
      cells = n;
      Arrays.fill(grains, 0);
      Arrays.fill(weeds, 0);
      hedges = 0;
      lean = 0;
    }

    int addOne(int itsKind, int itsM, int cell) {
      int p = people;
      if (p < MOST_PEOPLE) {
        kind[p] = itsKind;
        m[p] = itsM;
        at[p] = cell;
        way[p] = 0;
        people++;
      }
      return p;
    }

    void leaveOut(int person) {
      for (int p = Math.max(0, person); p < people - 1; p++) {
        kind[p] = kind[p + 1];
        m[p] = m[p + 1];
        at[p] = at[p + 1];
        way[p] = way[p + 1];
      }
      people = Math.max(0, people - 1);
    }

    int together() {
      return grainsIn((1 << cells) - 1);
    }

    int grainsIn(int set) {
      int sum = 0;
      for (int cell = 0; cell < cells; cell++) {
        if (has(set, cell)) {
          sum += grains[cell];
        }
      }
      return sum;
    }

    int sightGiven(int itsM, int itsFog, int itsHour) {
      int v = sightText == null ? 3 - itsFog / 3 : sightText.valueFor(itsM, itsFog, itsHour);
      return held(v, 9);
    }

    int theftGiven(int itsM, int itsGrains, int itsHour) {
      int v = theftText == null ? itsM : theftText.valueFor(itsM, itsGrains, itsHour);
      return held(v, 99);
    }

    int sightIn(int person, int itsFog, int itsHour) {
      return Kinds.sightOf(kind[person], m[person], sightGiven(m[person], itsFog, itsHour));
    }

    int takesFrom(int person, int itsGrains, int itsHour) {
      // only a THIEF and those under it ever ask the TEXT
      if (!Kinds.isOneOf(kind[person], Kinds.THIEF)) {
        return 0;
      }
      return Kinds.takesOf(kind[person], theftGiven(m[person], itsGrains, itsHour));
    }

    int seenBy(int person) {
      return viewFrom(person, at[person], sightIn(person, fog, hour), hedges);
    }

    /** What one would SEE from a place with a SIGHT between HEDGES. */
    int viewFrom(int person, int place, int sight, int between) {
      int set = 1 << place;
      for (int k = place - 1; k >= 0 && k >= place - sight && !has(between, k); k--) {
        set |= 1 << k;
      }
      for (int k = place + 1; k < cells && k <= place + sight && !has(between, k - 1); k++) {
        set |= 1 << k;
      }
      return kind[person] == Kinds.MIRROR ? set | mirrored(set) : set;
    }

    private int mirrored(int set) {
      int other = 0;
      for (int k = 0; k < cells; k++) {
        if (has(set, cells - 1 - k)) {
          other |= 1 << k;
        }
      }
      return other;
    }

    int whoSee(int cell) {
      int set = 0;
      for (int p = 0; p < people; p++) {
        if (has(seenBy(p), cell)) {
          set |= 1 << p;
        }
      }
      return set;
    }

    int whoAreAt(int cell) {
      int set = 0;
      for (int p = 0; p < people; p++) {
        if (at[p] == cell) {
          set |= 1 << p;
        }
      }
      return set;
    }

    /** Whether somebody SEES a CELL, with a SIGHT for each of the PEOPLE, between HEDGES. */
    boolean isSeen(int cell, int[] sights, int between) {
      for (int p = 0; p < people && p < sights.length; p++) {
        if (has(viewFrom(p, at[p], sights[p], between), cell)) {
          return true;
        }
      }
      return false;
    }

    void passHour() {
      grow();
      for (int p = 0; p < people; p++) {
        int cell = at[p];
        int taken = Math.min(grains[cell], takesFrom(p, grains[cell], hour));
        grains[cell] -= taken;
        stolen = held(stolen + taken, MOST_GRAINS);
        goOn(p);
      }
      hour++;
    }

    private void grow() {
      Arrays.fill(counted, 0);
      for (int p = 0; p < people; p++) {
        int counts = Kinds.countsOf(kind[p], m[p]);
        // the view of one who counts nothing is not worth working out
        int view = counts == 0 ? 0 : viewFrom(p, at[p], sightIn(p, fog, hour), hedges);
        for (int cell = 0; cell < cells; cell++) {
          if (has(view, cell)) {
            counted[cell] += counts;
          }
        }
      }
      for (int cell = 0; cell < cells; cell++) {
        grains[cell] = held(grains[cell] + counted[cell] / 2 - weeds[cell], MOST_GRAINS);
      }
    }

    private void goOn(int person) {
      int next = at[person] + way[person];
      if (within(next, 0, cells - 1)) {
        at[person] = next;
      } else {
        way[person] = -way[person];
      }
    }

    void turnOneByDraws() {
      if (people > 0) {
        int p = draw() % people;
        way[p] = draw() % 3 - 1;
      }
    }

    private int draw() {
      z = z * 1103515245 + 12345;
      return z >>> 8;
    }

    void addUpLeaning() {
      // the last ear leans on none, so it keeps all
      for (int cell = 0; cell < cells - 1; cell++) {
        if (has(lean, cell)) {
          int rest = grains[cell] % 9;
          grains[cell + 1] = held(grains[cell + 1] + grains[cell] - rest, MOST_GRAINS);
          grains[cell] = rest;
        }
      }
    }

    void divideGrains(int v) {
      for (int cell = 0; cell < cells && v != 0; cell++) {
        grains[cell] = grains[cell] / v;
      }
    }
  }

  /** A TEXT, worked out from left to right: numbers, names, and behind them what is done with the latest. */
  static final class Text {
    static final int FIRST_NAME = -1;
    static final int SECOND_NAME = -2;
    static final int THIRD_NAME = -3;
    private final int[] code;
    private final int[] waiting;

    Text(Row read) {
      code = Arrays.copyOf(read.numbers, read.size);
      waiting = new int[code.length];
    }

    int valueFor(int a, int b, int c) {
      int size = 0;
      for (int i = 0; i < code.length; i++) {
        int sign = code[i];
        if (sign >= THIRD_NAME) {
          if (size < waiting.length) {
            waiting[size] = sign >= 0 ? sign : sign == FIRST_NAME ? a : sign == SECOND_NAME ? b : c;
            size++;
          }
        } else if (sign == -'!') {
          if (size > 0) {
            waiting[size - 1] = waiting[size - 1] == 0 ? 1 : 0;
          }
        } else if (size > 1) {
          size--;
          waiting[size - 1] = joined(waiting[size - 1], -sign, waiting[size]);
        }
      }
      return size > 0 ? waiting[0] : 0;
    }

    private static int joined(int left, int sign, int right) {
      switch (sign) {
        case '|': return left != 0 || right != 0 ? 1 : 0;
        case '&': return left != 0 && right != 0 ? 1 : 0;
        case '<': return left < right ? 1 : 0;
        case '=': return left == right ? 1 : 0;
        case '>': return left > right ? 1 : 0;
        case '+': return left + right;
        case '-': return left - right;
        case '*': return left * right;
        case '/': return right == 0 ? 0 : left / right;
        case '%': return right == 0 ? 0 : left % right;
        default: return 0;
      }
    }
  }

  /** Reads THE TAPE byte by byte; signs wait until what binds more closely has been put down. */
  static final class Reader {
    private static final int MOST_OPEN = 5;
    private static final int MOST_DIGITS = 4;
    private static final int COMPARING = 3;
    private final Row code;
    private final Row signs;
    private String names;
    private int open;
    private int number;
    private int digits;
    private boolean termIsDue;

    Reader() {
      code = new Row(MOST_TAPE);
      signs = new Row(MOST_TAPE);
      names = "";
    }

    /** The FAULT; -1 if THE TAPE is a TEXT. */
    int faultOf(Row tape, String itsNames) {
      names = itsNames;
      code.clear();
      signs.clear();
      open = 0;
      digits = 0;
      termIsDue = true;
      for (int i = 0; i < tape.size; i++) {
        if (!goesOn(tape.get(i))) {
          return i;
        }
      }
      endNumber();
      if (termIsDue || open > 0) {
        return tape.size;
      }
      putDownFrom(1);
      return -1;
    }

    Text textRead() {
      return new Text(code);
    }

    private boolean goesOn(int c) {
      if (c >= '0' && c <= '9') {
        return takeDigit(c - '0');
      }
      endNumber();
      return termIsDue ? takeTerm(c) : takeSign(c);
    }

    private boolean takeDigit(int digit) {
      if (digits > 0 && digits < MOST_DIGITS) {
        number = number * 10 + digit;
        digits++;
        return true;
      }
      if (!termIsDue) {
        return false;
      }
      number = digit;
      digits = 1;
      termIsDue = false;
      return true;
    }

    private void endNumber() {
      if (digits > 0) {
        digits = 0;
        endTerm(number);
      }
    }

    private void endTerm(int sign) {
      code.add(sign);
      termIsDue = false;
      closeNots();
    }

    private boolean takeTerm(int c) {
      if (c == '!' || c == '(') {
        if (open >= MOST_OPEN) {
          return false;
        }
        open++;
        signs.add(c);
        return true;
      }
      int name = names.indexOf((char) c);
      if (name < 0) {
        return false;
      }
      endTerm(Text.FIRST_NAME - name);
      return true;
    }

    private boolean takeSign(int c) {
      if (c == ')') {
        return closeBracket();
      }
      int rank = rankOf(c);
      if (rank == 0) {
        return false;
      }
      putDownFrom(rank == COMPARING ? rank + 1 : rank);
      if (rank == COMPARING && rankOf(signs.last()) == rank) {
        return false;
      }
      signs.add(c);
      termIsDue = true;
      return true;
    }

    private boolean closeBracket() {
      putDownFrom(1);
      if (signs.last() != '(') {
        return false;
      }
      signs.removeLast();
      open--;
      closeNots();
      return true;
    }

    /** A ! is open until what it stands ahead of has ended. */
    private void closeNots() {
      for (int i = signs.size; i > 0 && signs.last() == '!'; i--) {
        code.add(-signs.removeLast());
        open--;
      }
    }

    private void putDownFrom(int rank) {
      for (int i = signs.size; i > 0 && rankOf(signs.last()) >= rank; i--) {
        code.add(-signs.removeLast());
      }
    }

    /** How closely a sign between two binds; 0 if it is none. */
    private static int rankOf(int c) {
      switch (c) {
        case '|': return 1;
        case '&': return 2;
        case '<':
        case '=':
        case '>': return COMPARING;
        case '+':
        case '-': return 4;
        case '*':
        case '/':
        case '%': return 5;
        default: return 0;
      }
    }
  }

  /** LEAD. A CELL's GRAINS hang on the others only by the PEOPLE, so only that CELL is gone through. */
  static final class Leading {
    static final int LAST = 3;
    final int[] row;
    int moved;
    private final int[] counted;
    private final boolean[] stands;
    private final int[] places;
    private Estate estate;
    private int cell;
    private int span;

    Leading() {
      row = new int[LAST + 1];
      counted = new int[MOST_LEAD_HOURS * MOST_PEOPLE * MOST_CELLS];
      stands = new boolean[MOST_LEAD_HOURS * MOST_PEOPLE * MOST_CELLS];
      places = new int[MOST_PEOPLE];
    }

    /** Whether a CELL can have v GRAINS behind n HOURS; row and moved tell by whom. */
    boolean isFound(Estate itsEstate, int itsCell, int v, int n) {
      estate = itsEstate;
      cell = itsCell;
      span = held(n, MOST_LEAD_HOURS);
      Arrays.fill(row, -1);
      moved = 0;
      for (int p = 0; p < estate.people; p++) {
        places[p] = estate.at[p];
        lookUpWalks(p);
      }
      if (harvest() >= v) {
        return true;
      }
      return mostHarvest() >= v && (isFoundByOne(v) || isFoundByTwo(v));
    }

    private static int index(int time, int person, int start) {
      return (time * MOST_PEOPLE + person) * MOST_CELLS + start;
    }

    private void lookUpWalks(int person) {
      int counts = Kinds.countsOf(estate.kind[person], estate.m[person]);
      for (int time = 0; time < span; time++) {
        int sight = estate.sightIn(person, estate.fog, estate.hour + time);
        for (int start = 0; start < estate.cells; start++) {
          int place = placeAfter(person, start, time);
          int view = estate.viewFrom(person, place, sight, estate.hedges);
          counted[index(time, person, start)] = has(view, cell) ? counts : 0;
          stands[index(time, person, start)] = place == cell;
        }
      }
    }

    private int placeAfter(int person, int start, int time) {
      int place = start;
      int way = estate.way[person];
      for (int i = 0; i < time; i++) {
        if (within(place + way, 0, estate.cells - 1)) {
          place += way;
        } else {
          way = -way;
        }
      }
      return place;
    }

    private int harvest() {
      int grains = estate.grains[cell];
      for (int time = 0; time < span; time++) {
        int sum = 0;
        for (int p = 0; p < estate.people; p++) {
          sum += counted[index(time, p, places[p])];
        }
        grains = held(grains + sum / 2 - estate.weeds[cell], MOST_GRAINS);
        for (int p = 0; p < estate.people; p++) {
          if (stands[index(time, p, places[p])]) {
            grains -= Math.min(grains, estate.takesFrom(p, grains, estate.hour + time));
          }
        }
      }
      return grains;
    }

    /** No placing yields more than this: it spares looking for what can't be. */
    private int mostHarvest() {
      int grains = estate.grains[cell];
      for (int time = 0; time < span; time++) {
        int sum = 0;
        for (int p = 0; p < estate.people; p++) {
          int most = 0;
          for (int start = 0; start < estate.cells; start++) {
            most = Math.max(most, counted[index(time, p, start)]);
          }
          sum += most;
        }
        grains = held(grains + sum / 2 - estate.weeds[cell], MOST_GRAINS);
      }
      return grains;
    }

    private boolean isFoundByOne(int v) {
      for (int a = 0; a < estate.people; a++) {
        for (int there = 0; there < estate.cells; there++) {
          places[a] = there;
          if (there != estate.at[a] && harvest() >= v) {
            putDown(0, a);
            moved = 1;
            return true;
          }
        }
        places[a] = estate.at[a];
      }
      return false;
    }

    private boolean isFoundByTwo(int v) {
      for (int a = 0; a < estate.people; a++) {
        for (int there = 0; there < estate.cells; there++) {
          places[a] = there;
          for (int b = a + 1; b < estate.people && there != estate.at[a]; b++) {
            for (int yonder = 0; yonder < estate.cells; yonder++) {
              places[b] = yonder;
              if (yonder != estate.at[b] && harvest() >= v) {
                putDown(0, a);
                putDown(2, b);
                moved = 2;
                return true;
              }
            }
            places[b] = estate.at[b];
          }
        }
        places[a] = estate.at[a];
      }
      return false;
    }

    private void putDown(int from, int person) {
      row[from] = person;
      row[from + 1] = places[person];
    }
  }

  /** VOICES of one of the PEOPLE, and THE TRACE of the latest. */
  static final class Voices {
    static final int LAST_ACT = 3;
    private static final int LOOKS = 0;
    private static final int ADDS = 1;
    private static final int GLANCES = 2;
    private static final int PROVES = 3;
    private static final int ACTS = 4;
    private static final int DEEPEST = 12;
    /** The BODIES of each KIND by acts; 0 where it has none. */
    private static final int[] BODIES = {
      10, 11, 12, 13,
      20, 0, 0, 0,
      0, 30, 0, 0,
      0, 0, 40, 0,
      0, 0, 0, 50,
      0, 60, 0, 0,
      0, 0, 70, 71,
    };
    final Row bodies;
    private int kind;
    private int n;
    private int m;

    Voices() {
      bodies = new Row(MOST_TRACE);
    }

    void begin(int itsKind, int itsN, int itsM) {
      kind = itsKind;
      n = itsN;
      m = itsM;
      bodies.clear();
    }

    int answer(int act, int x) {
      return say(this, act, kind, x, 0);
    }

    /** The KIND, from one on upwards, that has a BODY for an act; -1 if none has. */
    private static int ownerOf(int act, int from) {
      int owner = from;
      for (int step = 0; step <= Kinds.LAST && owner >= 0; step++) {
        if (bodyOf(act, owner) != 0) {
          return owner;
        }
        owner = Kinds.above(owner);
      }
      return -1;
    }

    private static int bodyOf(int act, int owner) {
      int i = owner * ACTS + act;
      return i >= 0 && i < BODIES.length ? BODIES[i] : 0;
    }

    private static int say(Voices one, int act, int from, int x, int depth) {
      int owner = ownerOf(act, from);
      if (owner < 0 || depth > DEEPEST) {
        return 0;
      }
      int higher = Kinds.above(owner);
      int body = bodyOf(act, owner);
      int own = one.kind;
      int next = depth + 1;
      one.bodies.add(body);
      switch (body) {
        case 10: return x + one.n;
        case 11: return say(one, LOOKS, own, x, next) * 2;
        case 12: return x - one.m;
        case 13: return say(one, ADDS, own, x, next) ^ say(one, GLANCES, own, x, next);
        case 20: return say(one, LOOKS, higher, x, next) * 3;
        case 30: return say(one, ADDS, higher, x, next) - say(one, GLANCES, own, 1, next);
        case 40: return -say(one, GLANCES, higher, x, next);
        case 50: return say(one, PROVES, higher, x, next) - say(one, LOOKS, own, 2, next);
        case 60: return say(one, ADDS, higher, x + 1, next);
        case 70: return say(one, GLANCES, higher, x, next) ^ one.n;
        case 71: return say(one, ADDS, own, x, next) - say(one, PROVES, higher, x, next);
        default: return 0;
      }
    }
  }

  /** A row of numbers of 8, 16 or 32 bits, with their signs; without bits it is missing. */
  static final class Sheet {
    final int[] numbers;
    int bits;
    int size;

    Sheet() {
      numbers = new int[MOST_NUMBERS];
    }

    boolean isMissing() {
      return bits == 0;
    }

    void startAnew(int itsBits, int n) {
      bits = itsBits;
      size = held(n, MOST_NUMBERS);
      Arrays.fill(numbers, 0);
    }

    void set(int i, int v) {
      if (i >= 0 && i < size) {
        numbers[i] = bits == 8 ? (byte) v : bits == 16 ? (short) v : v;
      }
    }
  }
}
