/** One test for each promise of the document, by its number: ordinary inputs, edges, wrong inputs. */
public final class WheatCountsPromisesTest {
  private static final int LOW = -1000000000;
  private static final int BEYOND = LOW - 1;
  private static final int NONE = LOW - 2;
  private static final int STATE = LOW - 3;
  private static final int FULL = LOW - 4;
  private static final int KIND = LOW - 5;
  private static final int LEAST = Integer.MIN_VALUE;
  private static final int MOST = Integer.MAX_VALUE;
  private static int promise = 0;
  private static int asked = 0;
  private static int wrong = 0;

  private static void due(int want, int got) {
    asked++;
    if (got != want) {
      wrong++;
      StackTraceElement place = new Throwable().getStackTrace()[1];
      System.out.println("promise " + promise + ", line " + place.getLineNumber() + ": answered " + got + ", due is " + want);
    }
  }

  private static void begin(int number) {
    promise = number;
  }

  public static void main(String[] args) {
    aNewObject();
    field();
    sow();
    ofCell();
    lay();
    person();
    ofPerson();
    sightsAndViews();
    lead();
    become();
    as();
    feed();
    textsThatAreRead();
    faults();
    law();
    hours();
    thieves();
    loose();
    evening();
    hail();
    then();
    full();
    leads();
    sums();
    looked();
    watch();
    hide();
    gains();
    odds();
    seed();
    voice();
    trace();
    sheet();
    put();
    move();
    weeds();
    judge();
    image();
    restore();
    tell();
    check();
    count();
    told();
    System.out.println(wrong == 0 ? asked + " answers are as due" : wrong + " of " + asked + " answers are not as due");
    if (wrong != 0) {
      System.exit(1);
    }
  }

  /** An object of n CELLS with PEOPLE, told as km, cell, km, cell, .. */
  private static WheatCounts made(int n, int... people) {
    WheatCounts x = new WheatCounts();
    x.field(n);
    for (int i = 0; i + 1 < people.length; i += 2) {
      x.person(people[i], people[i + 1]);
    }
    return x;
  }

  /** Reads a text for a use; what text() answers. */
  private static int read(WheatCounts x, int use, String text) {
    for (int i = 0; i < text.length(); i++) {
      x.feed(text.charAt(i), 1);
    }
    return x.text(use);
  }

  private static int[] row(int... numbers) {
    return numbers;
  }

  private static void fill(WheatCounts x, int sheet, int bits, int... numbers) {
    x.sheet(sheet, bits, numbers.length);
    for (int i = 0; i < numbers.length; i++) {
      x.put(sheet, i, numbers[i]);
    }
  }

  private static void sowAll(WheatCounts x, int what, int... numbers) {
    for (int i = 0; i < numbers.length; i++) {
      x.sow(i, what, numbers[i]);
    }
  }

  private static void dueGrains(WheatCounts x, int... numbers) {
    for (int i = 0; i < numbers.length; i++) {
      due(numbers[i], x.ofCell(i, 0));
    }
  }

  private static void aNewObject() {
    begin(1);
    WheatCounts x = new WheatCounts();
    int[] first = {6, 0, 0, 0, 0, 0, 0, 0, 0, 0, 0, 1};
    for (int what = 0; what < first.length; what++) {
      due(first[what], x.count(what));
    }
    for (int cell = 0; cell < 6; cell++) {
      due(0, x.ofCell(cell, 0));
      due(0, x.ofCell(cell, 1));
    }
    due(BEYOND, x.ofCell(6, 0));
    for (int sheet = 0; sheet < 4; sheet++) {
      due(NONE, x.judge(sheet));
    }
    due(2, x.law(0, 9, 3, 9));
    due(7, x.law(1, 7, 3, 9));
    due(NONE, x.restore());
    due(NONE, x.trace(0));
  }

  private static void field() {
    begin(2);
    WheatCounts x = new WheatCounts();
    due(BEYOND, x.field(2));
    due(BEYOND, x.field(11));
    due(BEYOND, x.field(LEAST));
    due(BEYOND, x.field(MOST));
    due(6, x.field(3));
    due(3, x.field(10));
    x.sow(9, 0, 5);
    x.sow(9, 1, 4);
    x.lay(0, 511);
    x.lay(1, 1023);
    x.lay(2, 7);
    due(10, x.field(10));
    due(0, x.ofCell(9, 0));
    due(0, x.ofCell(9, 1));
    due(0, x.count(3));
    due(0, x.count(4));
    due(7, x.count(5));
    x.person(0, 9);
    due(BEYOND, x.field(2));
    due(STATE, x.field(3));
    due(10, x.count(0));
  }

  private static void sow() {
    begin(3);
    WheatCounts x = new WheatCounts();
    due(0, x.sow(5, 0, 99999));
    due(99999, x.sow(5, 0, 0));
    due(0, x.sow(0, 1, 99));
    due(99, x.sow(0, 1, 3));
    due(3, x.ofCell(0, 1));
    due(BEYOND, x.sow(6, 0, 1));
    due(BEYOND, x.sow(-1, 0, 1));
    due(BEYOND, x.sow(0, 2, 1));
    due(BEYOND, x.sow(0, -1, 1));
    due(BEYOND, x.sow(0, 0, 100000));
    due(BEYOND, x.sow(0, 0, -1));
    due(BEYOND, x.sow(0, 1, 100));
    due(BEYOND, x.sow(0, 1, -1));
    due(0, x.ofCell(0, 0));
    due(3, x.ofCell(0, 1));
  }

  private static void ofCell() {
    begin(4);
    WheatCounts x = made(6, 0, 0, 10, 3, 20, 3);
    x.sow(3, 0, 17);
    x.sow(3, 1, 18);
    due(17, x.ofCell(3, 0));
    due(18, x.ofCell(3, 1));
    due(7, x.ofCell(3, 2));
    due(6, x.ofCell(4, 2));
    due(2, x.ofCell(5, 2));
    due(6, x.ofCell(3, 3));
    due(1, x.ofCell(0, 3));
    due(0, x.ofCell(5, 3));
    due(BEYOND, x.ofCell(6, 0));
    due(BEYOND, x.ofCell(-1, 2));
    due(BEYOND, x.ofCell(0, 4));
    due(BEYOND, x.ofCell(0, -1));
  }

  private static void lay() {
    begin(5);
    WheatCounts x = made(3, 0, 0);
    due(0, x.lay(0, 3));
    due(3, x.lay(0, 2));
    due(3, x.ofPerson(0, 7));
    due(BEYOND, x.lay(0, 4));
    due(BEYOND, x.lay(0, -1));
    due(0, x.lay(1, 7));
    due(7, x.lay(1, 0));
    due(BEYOND, x.lay(1, 8));
    due(BEYOND, x.lay(1, LEAST));
    due(0, x.lay(2, 9));
    due(1, x.ofPerson(0, 7));
    due(9, x.lay(2, 0));
    due(BEYOND, x.lay(2, 10));
    due(BEYOND, x.lay(3, 0));
    due(BEYOND, x.lay(-1, 0));
    due(2, x.count(3));
    WheatCounts wide = made(10);
    due(0, wide.lay(0, 511));
    due(BEYOND, wide.lay(0, 512));
    due(0, wide.lay(1, 1023));
    due(BEYOND, wide.lay(1, 1024));
  }

  private static void person() {
    begin(6);
    WheatCounts x = made(4);
    due(BEYOND, x.person(-1, 0));
    due(BEYOND, x.person(70, 0));
    due(BEYOND, x.person(0, 4));
    due(BEYOND, x.person(0, -1));
    for (int i = 0; i < 8; i++) {
      due(i, x.person(i == 7 ? 69 : 10 * (i % 7) + i, i % 4));
    }
    due(8, x.count(1));
    due(FULL, x.person(0, 0));
    due(BEYOND, x.person(0, 4));
    due(8, x.count(1));
    due(6, x.ofPerson(7, 0));
    due(9, x.ofPerson(7, 1));
    due(3, x.ofPerson(7, 2));
    due(0, x.ofPerson(7, 3));
  }

  private static void ofPerson() {
    begin(7);
    WheatCounts x = made(7, 4, 0, 13, 2, 25, 3, 34, 6, 42, 5, 51, 1, 68, 4);
    int[][] all = {
      row(0, 4, 0, 0, 3, 2, 0, 15), row(1, 3, 2, 0, 3, 4, 0, 63), row(2, 5, 3, 0, 1, 1, 0, 28),
      row(3, 4, 6, 0, 3, 0, 4, 120), row(4, 2, 5, 0, 4, 4, 0, 126), row(5, 1, 1, 0, 1, 2, 0, 119),
      row(6, 8, 4, 0, 5, 2, 4, 127)};
    for (int p = 0; p < all.length; p++) {
      for (int what = 0; what < 8; what++) {
        due(all[p][what], x.ofPerson(p, what));
      }
    }
    x.lead(2, 1, -1);
    due(-1, x.ofPerson(2, 3));
    due(BEYOND, x.ofPerson(7, 0));
    due(BEYOND, x.ofPerson(-1, 0));
    due(BEYOND, x.ofPerson(0, 8));
    due(BEYOND, x.ofPerson(0, -1));
    due(BEYOND, new WheatCounts().ofPerson(0, 0));
  }

  private static void sightsAndViews() {
    WheatCounts x = made(10, 9, 0, 29, 4, 49, 5, 68, 0, 50, 0, 39, 9);
    due(1, read(x, 0, "9"));
    due(9, x.ofPerson(0, 4));
    due(4, x.ofPerson(1, 4));
    due(10, x.ofPerson(2, 4));
    due(11, x.ofPerson(3, 4));
    due(1023, x.ofPerson(0, 7));
    due(511, x.ofPerson(1, 7));
    due(1, read(x, 0, "0"));
    due(1, x.ofPerson(0, 7));
    due(112, x.ofPerson(2, 7));
    due(7, x.ofPerson(3, 7));
    due(513, x.ofPerson(4, 7));
    due(1, x.ofPerson(4, 5));
    x.become(4, 53);
    due(2, x.ofPerson(4, 5));
    due(1, read(x, 0, "2"));
    x.lay(0, 1 << 1 | 1 << 5);
    due(3, x.ofPerson(0, 7));
    due(16 + 32 + 8, x.ofPerson(1, 7));
    due(4 + 8 + 16 + 32, x.ofPerson(2, 7));
    due(3 + 256 + 512, x.ofPerson(4, 7));
    due(1, read(x, 1, "g+h"));
    x.sow(9, 0, 40);
    due(40, x.ofPerson(5, 6));
    x.lead(3, 0, 9);
    due(20, x.ofPerson(3, 6));
    due(0, x.ofPerson(0, 6));
    x.lay(2, 0);
    x.become(3, 67);
    due(1, read(x, 0, "3"));
    due(4, x.ofPerson(3, 4));
  }

  private static void lead() {
    begin(8);
    WheatCounts x = made(5, 30, 1);
    due(1, x.lead(0, 0, 4));
    due(4, x.lead(0, 0, 0));
    due(0, x.lead(0, 1, -1));
    due(-1, x.lead(0, 1, 1));
    due(1, x.lead(0, 1, 0));
    due(BEYOND, x.lead(0, 0, 5));
    due(BEYOND, x.lead(0, 0, -1));
    due(BEYOND, x.lead(0, 1, 2));
    due(BEYOND, x.lead(0, 1, -2));
    due(BEYOND, x.lead(0, 2, 0));
    due(BEYOND, x.lead(0, -1, 0));
    due(BEYOND, x.lead(1, 0, 0));
    due(BEYOND, x.lead(-1, 0, 0));
    due(0, x.ofPerson(0, 2));
    due(0, x.ofPerson(0, 3));
  }

  private static void become() {
    begin(9);
    WheatCounts x = made(5, 12, 3);
    x.lead(0, 1, -1);
    due(1, x.become(0, 69));
    due(6, x.become(0, 0));
    due(0, x.become(0, 37));
    due(7, x.ofPerson(0, 1));
    due(3, x.ofPerson(0, 2));
    due(-1, x.ofPerson(0, 3));
    due(BEYOND, x.become(0, 70));
    due(BEYOND, x.become(0, -1));
    due(BEYOND, x.become(1, 0));
    due(BEYOND, x.become(-1, 0));
    due(3, x.ofPerson(0, 0));
  }

  private static void as() {
    begin(10);
    int[] under = {1, 3, 5, 9, 19, 37, 73};
    for (int kind = 0; kind < 7; kind++) {
      WheatCounts x = made(3, 10 * kind + kind + 2, 0);
      for (int other = 0; other < 7; other++) {
        due((under[kind] >> other & 1) == 1 ? kind + 2 : KIND, x.as(0, other));
      }
      due(BEYOND, x.as(0, 7));
      due(BEYOND, x.as(0, -1));
      due(BEYOND, x.as(1, 0));
      due(BEYOND, x.as(-1, kind));
    }
  }

  private static void feed() {
    begin(11);
    WheatCounts x = new WheatCounts();
    due(BEYOND, x.feed(1, 0));
    due(BEYOND, x.feed(1, 9));
    due(BEYOND, x.feed(1, -1));
    due(1, x.feed('m' + 256L * '+', 1));
    due(1, x.text(0));
    due(3, x.feed('m' + 256L * '+' + 65536L * '3', 3));
    due(1, x.text(0));
    due(7, x.law(0, 4, 0, 0));
    due(8, x.feed(0x3231303938373635L, 8));
    due(-14, x.text(0));
    for (int i = 1; i <= 6; i++) {
      due(8 * i, x.feed(-1L, 8));
    }
    due(FULL, x.feed(0, 3));
    due(FULL, x.feed(0, 8));
    due(48, x.count(8));
    due(50, x.feed(0, 2));
    due(FULL, x.feed(0, 1));
    due(BEYOND, x.feed(0, 9));
    due(50, x.count(8));
    due(-10, x.text(1));
  }

  private static void textsThatAreRead() {
    begin(12);
    WheatCounts x = new WheatCounts();
    due(BEYOND, x.text(-1));
    x.feed('5', 1);
    due(BEYOND, x.text(2));
    due(1, x.count(8));
    due(1, x.text(1));
    due(0, x.count(8));
    due(5, x.law(1, 9, 9, 9));
    due(-12, read(x, 1, "7+"));
    due(0, x.count(8));
    due(5, x.law(1, 9, 9, 9));
    due(1, read(x, 1, "6"));
    due(6, x.law(1, 9, 9, 9));
    due(2, x.law(0, 9, 3, 9));
    due(1, read(x, 0, "(((((9)))))"));
    due(1, read(x, 0, "!!!!!9+!!!!!1"));
    due(1, read(x, 0, "!!!!!m+!(!(!f))-(((((0000)))))*9999/m%h"));
    due(1, read(x, 0, "1+2+3+4+5+6+7+8+9+1+2+3+4+5+6+7+8+9+1+2+3+4+5+67"));
  }

  private static int faultOf(String text) {
    return -10 - read(new WheatCounts(), 0, text);
  }

  private static void faults() {
    due(0, faultOf(""));
    due(0, faultOf("x"));
    due(0, faultOf("g"));
    due(2, faultOf("m+"));
    due(2, faultOf("m++1"));
    due(4, faultOf("12345"));
    due(1, faultOf("mm"));
    due(1, faultOf("3m"));
    due(1, faultOf("m3"));
    due(3, faultOf("m<f<h"));
    due(7, faultOf("m<f|m<f<h"));
    due(3, faultOf("m=f>h"));
    due(1, faultOf("()"));
    due(2, faultOf("(m"));
    due(1, faultOf("m)"));
    due(4, faultOf("((m)"));
    due(3, faultOf("(m))"));
    due(1, faultOf("!"));
    due(1, faultOf("m!"));
    due(5, faultOf("!!!!!!m"));
    due(5, faultOf("((((((m"));
    due(5, faultOf("!(!(!(m"));
    due(1, faultOf("m -1"));
    due(0, faultOf("-1"));
    due(0, faultOf("+m"));
    due(1, faultOf("(-1)"));
    due(2, faultOf("m|"));
    due(2, faultOf("m&&h"));
    due(3, faultOf("(m)(h)"));
    due(3, faultOf("(m)3"));
    due(2, faultOf("!3("));
    due(6, faultOf("m*(h<f"));
    due(1, faultOf("m\u00e9"));
    due(0, faultOf("M"));
    due(0, faultOf("\u0000"));
    due(4, faultOf("1234)"));
    due(5, faultOf("(((((!m"));
    due(7, faultOf("(m<f)<h<m"));
    due(2, faultOf("m%/h"));
    due(0, faultOf("<"));
    due(4, faultOf("(m<f<h)"));
    due(3, faultOf("m<f=h&m"));
    due(5, faultOf("!(m|f"));
    due(9, faultOf("((((m))))))"));
    due(7, faultOf("(((((m)"));
    WheatCounts x = new WheatCounts();
    due(-10, read(x, 1, "f"));
    due(1, read(x, 1, "g"));
  }

  private static int given(String text, int a, int b, int c) {
    WheatCounts x = new WheatCounts();
    due(1, read(x, 1, text));
    return x.law(1, a, b, c);
  }

  private static void law() {
    begin(13);
    WheatCounts x = new WheatCounts();
    due(BEYOND, x.law(2, 0, 0, 0));
    due(BEYOND, x.law(-1, 0, 0, 0));
    due(3, x.law(0, 5, 2, 0));
    due(0, x.law(0, 5, 9, 0));
    due(0, x.law(0, 5, MOST, 0));
    due(9, x.law(0, 5, -18, 0));
    due(9, x.law(0, 5, LEAST, 0));
    due(99, x.law(1, 100, 2, 0));
    due(0, x.law(1, -1, 2, 0));
    due(1, read(x, 0, "m*4+f*2+h"));
    due(9, x.law(0, 1, 2, 1));
    due(9, x.law(0, 2, 2, 1));
    due(7, x.law(0, 1, 1, 1));
    due(0, x.law(0, 0, 0, -1));
    due(42, given("m*16+g*4+h", 2, 2, 2));
    due(7, given("1+2*3", 0, 0, 0));
    due(9, given("(1+2)*3", 0, 0, 0));
    due(5, given("9-3-1", 0, 0, 0));
    due(4, given("16/2/2", 0, 0, 0));
    due(3, given("17%10%4", 0, 0, 0));
    due(3, given("7*5%4", 0, 0, 0));
    due(14, given("17%10*2", 0, 0, 0));
    due(6, given("7/2*2", 0, 0, 0));
    due(10, given("9-1+2", 0, 0, 0));
    due(2, given("(1&1)+(3>2)", 0, 0, 0));
    due(1, given("1&1", 0, 0, 0));
    due(3, given("0-7/2+6", 0, 0, 0));
    due(97, given("(0-7)/2+100", 0, 0, 0));
    due(99, given("(0-7)%2+100", 0, 0, 0));
    due(0, given("m/g+m%g", 5, 0, 0));
    due(1, given("m/g=m", LEAST, -1, 0));
    due(1, given("m+1<m", MOST, 0, 0));
    due(1, given("m*m=0", 65536, 0, 0));
    due(1, given("2|0", 0, 0, 0));
    due(0, given("0|0", 0, 0, 0));
    due(1, given("2&4", 0, 0, 0));
    due(0, given("2&0", 0, 0, 0));
    due(1, given("1|0&0", 0, 0, 0));
    due(0, given("(1|0)&0", 0, 0, 0));
    due(1, given("1<2&3>2&2=2", 0, 0, 0));
    due(0, given("2<2|2>2|1=2", 0, 0, 0));
    due(1, given("1+1=4/2", 0, 0, 0));
    due(1, given("!0", 0, 0, 0));
    due(0, given("!m", -5, 0, 0));
    due(3, given("!0+2", 0, 0, 0));
    due(2, given("!(0+2)+2", 0, 0, 0));
    due(1, given("!!m", 7, 0, 0));
    due(1, given("1|1/0", 0, 0, 0));
    due(12, given("0012", 0, 0, 0));
    due(99, given("9999", 0, 0, 0));
  }

  private static void hours() {
    begin(14);
    WheatCounts x = made(6, 0, 0, 20, 1, 13, 5);
    sowAll(x, 0, 10, 10, 10, 0, 0, 99998);
    sowAll(x, 1, 1, 2, 50, 0, 9, 0);
    x.lead(0, 1, -1);
    // they COUNT: 0: 2 + 1, 1: 2 + 1, 2: 2 + 1 + 4, 3: 2 + 4, 4: 4, 5: 4
    due(10 + 9 + 0 + 3 + 0 + 99999, x.hours(1));
    dueGrains(x, 10, 9, 0, 3, 0, 99999);
    due(1, x.count(2));
    due(0, x.ofPerson(0, 2));
    due(1, x.ofPerson(0, 3));
    x.hours(1);
    due(1, x.ofPerson(0, 2));
    x.hours(2);
    due(3, x.ofPerson(0, 2));
    x.hours(3);
    due(5, x.ofPerson(0, 2));
    due(-1, x.ofPerson(0, 3));
    due(BEYOND, x.hours(0));
    due(BEYOND, x.hours(51));
    due(BEYOND, x.hours(LEAST));
    due(7, x.count(2));
    WheatCounts late = made(3);
    for (int i = 0; i < 199; i++) {
      late.hours(50);
    }
    due(STATE, late.hours(50));
    due(BEYOND, late.hours(51));
    due(0, late.loose(40));
    due(9990, late.count(2));
    due(STATE, late.loose(10));
    due(STATE, late.hours(10));
    due(0, late.hours(9));
    due(9999, late.count(2));
    due(STATE, late.hours(1));
    due(STATE, late.loose(1));
    due(0, late.then(50, 0));
    WheatCounts later = made(3);
    for (int i = 0; i < 199; i++) {
      later.hours(50);
    }
    later.hours(10);
    due(STATE, later.loose(40));
    due(0, later.loose(39));
    due(9999, later.count(2));
  }

  private static void thieves() {
    WheatCounts x = made(4, 35, 1, 69, 1);
    x.sow(1, 0, 6);
    x.lead(0, 1, 1);
    // the STEWARD makes each grow by 1; then 5 and, of the 2 that are left, 2 (half of 9 would be 4) go
    due(1 + 0 + 1 + 1, x.hours(1));
    due(7, x.count(6));
    due(2, x.ofPerson(0, 2));
    due(1, read(x, 1, "g/2+h"));
    x.sow(2, 0, 9);
    x.sow(1, 0, 99);
    // 10 / 2 + 1 of 10, half of 100 / 2 + 1 of 100
    x.hours(1);
    due(4, x.ofCell(2, 0));
    due(75, x.ofCell(1, 0));
    due(7 + 6 + 25, x.count(6));
    WheatCounts rich = made(3, 30, 0, 30, 1);
    read(rich, 1, "99");
    int stolen = 0;
    for (int i = 0; i < 12; i++) {
      rich.sow(0, 0, 99999);
      rich.sow(1, 0, 99999);
      rich.hours(50);
      stolen = Math.min(99999, stolen + 2 * 50 * 99);
      due(stolen, rich.count(6));
    }
    due(99999, stolen);
    due(99999 - 4950, rich.ofCell(0, 0));
    rich.sow(0, 0, 0);
    due(0, rich.then(1, 0));
  }

  private static void loose() {
    begin(15);
    WheatCounts x = made(6, 0, 0, 10, 3);
    due(BEYOND, x.loose(0));
    due(BEYOND, x.loose(41));
    due(1, x.count(11));
    int z = 1;
    int[] way = new int[2];
    int[] at = {0, 3};
    for (int i = 0; i < 30; i++) {
      z = z * 1103515245 + 12345;
      int who = (z >>> 8) % 2;
      z = z * 1103515245 + 12345;
      way[who] = (z >>> 8) % 3 - 1;
      for (int p = 0; p < 2; p++) {
        if (at[p] + way[p] < 0 || at[p] + way[p] > 5) {
          way[p] = -way[p];
        } else {
          at[p] += way[p];
        }
      }
      int all = x.loose(1);
      due(x.count(7), all);
      due(z, x.count(11));
      for (int p = 0; p < 2; p++) {
        due(at[p], x.ofPerson(p, 2));
        due(way[p], x.ofPerson(p, 3));
      }
    }
    due(30, x.count(2));
    WheatCounts lonely = made(3);
    due(0, lonely.loose(40));
    due(1, lonely.count(11));
    due(40, lonely.count(2));
  }

  private static void evening() {
    begin(16);
    WheatCounts x = made(4);
    sowAll(x, 0, 20, 30, 40, 50);
    x.lay(1, 1 | 4 | 8);
    due(140, x.evening());
    dueGrains(x, 2, 48, 4, 86);
    x.lay(1, 15);
    due(140, x.evening());
    dueGrains(x, 2, 3, 4, 131);
    sowAll(x, 0, 99999, 99999, 0, 0);
    due(99999, x.evening());
    dueGrains(x, 0, 0, 0, 99999);
    sowAll(x, 0, 17, 99995, 0, 0);
    x.lay(1, 1);
    due(8 + 99999, x.evening());
    dueGrains(x, 8, 99999, 0, 0);
    due(0, made(10).evening());
  }

  private static void hail() {
    begin(17);
    WheatCounts x = made(3);
    sowAll(x, 0, 8, 99999, 1);
    due(BEYOND, x.hail(1));
    due(BEYOND, x.hail(10));
    due(BEYOND, x.hail(0));
    due(BEYOND, x.hail(-2));
    due(2 + 33333, x.hail(3));
    due(1 + 16666, x.hail(2));
    due(1851, x.hail(9));
    dueGrains(x, 0, 1851, 0);
  }

  private static void then() {
    begin(18);
    WheatCounts x = made(6, 3, 0, 34, 5);
    x.sow(5, 0, 20);
    due(20, x.then(0, 5));
    due(2, x.then(2, 3));
    due(0, x.then(2, 4));
    due(8, x.then(2, -1));
    due(12, x.then(2, 5));
    due(20, x.then(50, -1));
    due(50, x.then(50, 0));
    due(0, x.count(2));
    due(0, x.count(6));
    due(20, x.count(7));
    due(BEYOND, x.then(51, 0));
    due(BEYOND, x.then(-1, 0));
    due(BEYOND, x.then(0, 6));
    due(BEYOND, x.then(0, -2));
  }

  private static void full() {
    begin(19);
    WheatCounts x = made(6, 0, 0);
    x.sow(5, 0, 7);
    due(0, x.full(0));
    due(0, x.full(7));
    due(1, x.full(8));
    due(1, x.full(11));
    due(2, x.full(12));
    due(50, x.full(207));
    due(NONE, x.full(208));
    due(NONE, x.full(999999));
    due(BEYOND, x.full(1000000));
    due(BEYOND, x.full(-1));
    due(0, x.count(2));
  }

  private static void leads() {
    begin(20);
    WheatCounts x = made(10, 0, 0, 10, 9, 20, 5);
    x.sow(5, 0, 4);
    // 5 is seen by the SCARECROW alone, whose half grain is cut
    due(0, x.leads(5, 4, 3, -1));
    for (int what = 0; what < 4; what++) {
      due(-1, x.leads(5, 4, 3, what));
    }
    due(1, x.leads(5, 5, 1, -1));
    due(0, x.leads(5, 5, 1, 0));
    due(2, x.leads(5, 5, 1, 1));
    due(-1, x.leads(5, 5, 1, 2));
    due(-1, x.leads(5, 5, 1, 3));
    due(1, x.leads(5, 6, 1, 0));
    due(2, x.leads(5, 6, 1, 1));
    due(2, x.leads(5, 7, 1, -1));
    due(0, x.leads(5, 7, 1, 0));
    due(2, x.leads(5, 7, 1, 1));
    due(1, x.leads(5, 7, 1, 2));
    due(2, x.leads(5, 7, 1, 3));
    due(NONE, x.leads(5, 8, 1, -1));
    due(1, x.leads(5, 8, 2, -1));
    due(1, x.leads(5, 8, 2, 0));
    due(NONE, x.leads(5, 5, 0, 3));
    due(0, x.ofPerson(0, 2));
    due(BEYOND, x.leads(10, 0, 0, -1));
    due(BEYOND, x.leads(-1, 0, 0, -1));
    due(BEYOND, x.leads(0, 100000, 0, -1));
    due(BEYOND, x.leads(0, -1, 0, -1));
    due(BEYOND, x.leads(0, 0, 4, -1));
    due(BEYOND, x.leads(0, 0, -1, -1));
    due(BEYOND, x.leads(0, 0, 0, 4));
    due(BEYOND, x.leads(0, 0, 0, -2));
    WheatCounts robbed = made(3, 39, 1, 35, 1);
    robbed.sow(1, 0, 30);
    // by the first alone 25 are left; both must go for all to stay
    due(1, robbed.leads(1, 25, 1, -1));
    due(0, robbed.leads(1, 25, 1, 1));
    due(2, robbed.leads(1, 30, 1, -1));
    due(1, robbed.leads(1, 30, 1, 2));
    due(0, robbed.leads(1, 30, 1, 3));
    due(NONE, made(3).leads(0, 1, 3, -1));
    due(0, made(3).leads(0, 0, 3, -1));
    leadsByHour();
  }

  private static void leadsByHour() {
    WheatCounts thief = made(3, 30, 1);
    thief.sow(1, 0, 30);
    read(thief, 1, "h*10");
    due(0, thief.leads(1, 20, 2, -1));
    due(1, thief.leads(1, 21, 2, -1));
    due(1, thief.leads(1, 1, 3, -1));
    due(0, thief.leads(1, 30, 3, 1));
    WheatCounts slow = made(3, 0, 2);
    read(slow, 0, "h");
    due(0, slow.leads(0, 1, 3, -1));
    due(1, slow.leads(0, 1, 2, -1));
    due(0, slow.leads(0, 2, 2, 1));
    WheatCounts walker = made(3, 0, 0);
    read(walker, 0, "0");
    walker.lead(0, 1, -1);
    due(0, walker.leads(0, 2, 3, -1));
    due(0, walker.leads(1, 1, 3, -1));
    due(NONE, walker.leads(0, 3, 3, -1));
    due(1, walker.leads(2, 1, 1, -1));
    due(2, walker.leads(2, 1, 1, 1));
    walker.sow(0, 1, 1);
    due(NONE, walker.leads(0, 1, 3, -1));
  }

  private static void sums() {
    begin(21);
    WheatCounts x = made(5);
    due(32, x.sums(0, 0));
    due(0, x.sums(0, 1));
    due(NONE, x.sums(1, 1));
    due(0, x.sums(1, 0));
    sowAll(x, 0, 1, 2, 3, 4, 5);
    due(3, x.sums(5, 0));
    due(6, x.sums(5, 1));
    due(1, x.sums(15, 0));
    due(31, x.sums(15, 1));
    due(BEYOND, x.sums(-1, 0));
    due(BEYOND, x.sums(1000000, 0));
    due(BEYOND, x.sums(0, 2));
    due(BEYOND, x.sums(0, -1));
    WheatCounts rich = made(10);
    for (int cell = 0; cell < 10; cell++) {
      rich.sow(cell, 0, 99999);
    }
    due(1023, rich.sums(999990, 1));
    due(0, rich.sums(999999, 0));
  }

  private static void looked() {
    begin(22);
    WheatCounts x = made(4, 0, 0, 0, 0, 20, 3, 39, 1, 60, 3);
    x.lay(2, 9);
    due(NONE, x.looked(0, 0));
    fill(x, 0, 8, 1, 0, 0, 0);
    // one LOOKER of two, the SCARECROW or not, the THIEF or not
    due(8, x.looked(0, 0));
    due(1, x.looked(0, 1));
    x.sow(0, 1, 99);
    due(8, x.looked(0, 0));
    x.put(0, 0, 2);
    due(4, x.looked(0, 0));
    due(3, x.looked(0, 1));
    x.put(0, 0, 0);
    x.put(0, 3, 1);
    due(4, x.looked(0, 0));
    due(16, x.looked(0, 1));
    x.put(0, 3, 2);
    due(0, x.looked(0, 0));
    due(NONE, x.looked(0, 1));
    fill(x, 1, 16, 0, 0, 0);
    due(NONE, x.looked(1, 0));
    fill(x, 1, 32, 0, 0, 0, 0, 0);
    due(NONE, x.looked(1, 0));
    due(BEYOND, x.looked(4, 0));
    due(BEYOND, x.looked(-1, 0));
    due(BEYOND, x.looked(0, 2));
    due(BEYOND, x.looked(0, -1));
    due(BEYOND, x.looked(3, 2));
    WheatCounts empty = made(3);
    fill(empty, 0, 8, 0, 0, 0);
    due(1, empty.looked(0, 0));
    due(0, empty.looked(0, 1));
  }

  private static void watch() {
    begin(23);
    due(NONE, made(3).watch());
    WheatCounts x = made(9, 20, 0, 0, 1, 0, 7, 10, 3, 0, 5);
    // 0 SEES 0 to 1, 1 SEES 0 to 4, 2 SEES 4 to 8, 3 SEES 0 to 6, 4 SEES 2 to 8
    due(2 + 4, x.watch());
    x.lay(0, 8);
    due(2 + 4, x.watch());
    x.lay(0, 1);
    due(1 + 2 + 4, x.watch());
    x.lay(0, 3);
    due(1 + 2 + 16, x.watch());
    x.lay(0, 128);
    x.lead(2, 0, 6);
    due(NONE, x.watch());
    WheatCounts all = made(3, 0, 0, 0, 1, 0, 2);
    due(1, all.watch());
  }

  private static void hide() {
    begin(24);
    WheatCounts x = made(8, 0, 0, 0, 6);
    due(0, made(3).hide(0));
    due(NONE, x.hide(0));
    due(1, x.hide(1));
    // 3 is seen by both, from either side
    due(1 + 8, x.hide(3));
    due(16, x.hide(4));
    x.lay(0, 16);
    due(0, x.hide(4));
    due(1, x.hide(3));
    due(16, x.count(3));
    due(BEYOND, x.hide(8));
    due(BEYOND, x.hide(-1));
    WheatCounts mirror = made(7, 50, 0);
    // 6 is seen in the mirror, so that no HEDGE hides it
    due(NONE, mirror.hide(6));
    due(1, mirror.hide(5));
  }

  private static void gains() {
    begin(25);
    WheatCounts x = made(4, 0, 0, 20, 3, 39, 1);
    sowAll(x, 0, 9, 9, 9, 9);
    due(0, x.gains(0, 0));
    due(4, x.gains(0, 1));
    due(30, x.gains(0, 10));
    due(0, x.gains(1, 1));
    due(-9, x.gains(2, 1));
    due(BEYOND, x.gains(3, 0));
    due(BEYOND, x.gains(-1, 0));
    due(BEYOND, x.gains(0, 51));
    due(BEYOND, x.gains(0, -1));
    due(0, x.count(2));
    due(3, x.count(1));
    WheatCounts two = made(3, 10, 0, 0, 2);
    due(6, two.gains(0, 1));
    due(150, two.gains(1, 50));
    WheatCounts alone = made(3, 0, 0);
    due(6, alone.gains(0, 2));
    WheatCounts walkers = made(3, 0, 0, 0, 2, 0, 0);
    read(walkers, 0, "0");
    walkers.sow(2, 1, 1);
    walkers.lead(2, 1, 1);
    // without the first one the others go on as they are
    due(3, walkers.gains(0, 3));
    due(0, walkers.gains(1, 2));
    due(2, walkers.gains(2, 2));
  }

  private static void odds() {
    begin(26);
    WheatCounts x = made(6, 0, 0);
    int[][] all = {row(1, 1), row(9, 10), row(3, 5), row(3, 10), row(0, 1), row(0, 1)};
    for (int cell = 0; cell < 6; cell++) {
      due(all[cell][0], x.odds(cell, 0));
      due(all[cell][1], x.odds(cell, 1));
    }
    x.lay(2, 9);
    due(3, x.odds(2, 0));
    read(x, 0, "f<5");
    due(1, x.odds(1, 0));
    due(2, x.odds(1, 1));
    x.lay(0, 1);
    due(0, x.odds(1, 0));
    due(1, x.odds(1, 1));
    due(9, x.count(5));
    due(0, made(3).odds(0, 0));
    due(1, made(3).odds(0, 1));
    due(BEYOND, x.odds(6, 0));
    due(BEYOND, x.odds(-1, 0));
    due(BEYOND, x.odds(0, 2));
    due(BEYOND, x.odds(0, -1));
  }

  private static void seed() {
    begin(27);
    WheatCounts x = made(3, 0, 1);
    due(1, x.seed(LEAST));
    due(LEAST, x.seed(BEYOND));
    due(BEYOND, x.seed(7));
    due(0, x.told(1));
    due(7, x.count(11));
    x.loose(1);
    int z = 7 * 1103515245 + 12345;
    due(z * 1103515245 + 12345, x.seed(0));
  }

  private static void voice() {
    begin(28);
    WheatCounts x = made(3, 0, 0, 4, 0, 15, 0, 26, 0, 37, 0, 48, 0, 53, 0, 67, 0);
    int[][] all = {
      row(11, 22, 6, 22 ^ 6), row(3 * 12, 2 * 36, 5, 72 ^ 5), row(13, 26 - -5, 4, 31 ^ 4), row(14, 28, -3, 28 ^ -3),
      row(3 * 15, 90, 2, (90 ^ 2) - 21), row(16, 34 - -2, 7, 36 ^ 7)};
    for (int p = 1; p < 7; p++) {
      for (int act = 0; act < 4; act++) {
        due(all[p - 1][act], x.voice(p, act, 10));
      }
    }
    // the STEWARD: glances are the THIEF's ^ n, proves are adds less (adds ^ glances)
    due(17, x.voice(7, 0, 10));
    due(34, x.voice(7, 1, 10));
    due(-3 ^ 7, x.voice(7, 2, 10));
    due(34 - (34 ^ (-3 ^ 7)), x.voice(7, 3, 10));
    due(LEAST, x.voice(1, 0, MOST));
    due(0, x.voice(1, 1, MOST));
    due(MOST - 3, x.voice(1, 2, LEAST));
    due(BEYOND, x.voice(8, 0, 0));
    due(BEYOND, x.voice(-1, 0, 0));
    due(BEYOND, x.voice(0, 4, 0));
    due(BEYOND, x.voice(0, -1, 0));
    due(4, x.told(1));
    due(BEYOND, x.voice(0, 0, BEYOND));
    due(4, x.told(1));
  }

  private static void dueTrace(WheatCounts x, int... bodies) {
    due(bodies.length, x.count(10));
    for (int i = 0; i < bodies.length; i++) {
      due(bodies[i], x.trace(i));
    }
    due(NONE, x.trace(bodies.length));
  }

  private static void trace() {
    begin(29);
    WheatCounts x = made(3, 0, 0, 10, 0, 20, 0, 30, 0, 40, 0, 50, 0, 60, 0);
    dueTrace(x);
    int[][] traces = {
      row(13, 11, 10, 12), row(13, 11, 20, 10, 12), row(13, 30, 11, 10, 12, 12), row(13, 11, 10, 40, 12),
      row(50, 13, 11, 20, 10, 12, 20, 10), row(13, 60, 30, 11, 10, 12, 12),
      row(71, 11, 10, 13, 11, 10, 70, 40, 12)};
    for (int p = 0; p < 7; p++) {
      x.voice(p, 3, 5);
      dueTrace(x, traces[p]);
    }
    due(NONE, x.trace(-1));
    due(NONE, x.trace(40));
    due(NONE, x.trace(LEAST));
    x.voice(0, 9, 1);
    due(9, x.count(10));
    x.voice(0, 0, 1);
    dueTrace(x, 10);
  }

  private static void sheet() {
    begin(30);
    WheatCounts x = new WheatCounts();
    due(1, x.sheet(0, 8, 40));
    due(1, x.sheet(3, 32, 0));
    due(0, x.weeds(3));
    due(BEYOND, x.put(3, 0, 0));
    due(BEYOND, x.sheet(4, 8, 1));
    due(BEYOND, x.sheet(-1, 8, 1));
    due(BEYOND, x.sheet(0, 7, 1));
    due(BEYOND, x.sheet(0, 64, -1));
    due(BEYOND, x.sheet(4, 8, -1));
    due(STATE, x.sheet(0, 8, -1));
    due(STATE, x.sheet(0, 16, LEAST));
    due(BEYOND, x.sheet(0, 8, 41));
    due(1, x.put(0, 39, 5));
    due(1, x.sheet(0, 8, 6));
    due(-1, x.judge(0));
    x.put(0, 0, 5);
    due(1, x.sheet(0, 16, 6));
    due(-1, x.judge(0));
    due(1, x.sheet(0, 0, -5));
    due(NONE, x.judge(0));
    due(1, x.sheet(0, 0, 99));
  }

  private static void put() {
    begin(31);
    WheatCounts x = new WheatCounts();
    due(BEYOND, x.put(4, 0, 0));
    due(BEYOND, x.put(-1, 0, 0));
    due(NONE, x.put(0, 0, 0));
    due(NONE, x.put(0, 99, 0));
    x.sheet(0, 8, 6);
    due(BEYOND, x.put(0, 6, 0));
    due(BEYOND, x.put(0, -1, 0));
    due(1, x.put(0, 0, 256 + 100));
    x.sow(0, 0, 100);
    due(-1, x.judge(0));
    due(1, x.put(0, 0, -156));
    due(-1, x.judge(0));
    x.sheet(1, 16, 6);
    due(1, x.put(1, 5, 65536 * 3 + 1000));
    x.sow(0, 0, 0);
    x.sow(5, 0, 1000);
    due(-1, x.judge(1));
    x.sheet(2, 32, 6);
    due(1, x.put(2, 5, 99999));
    x.sow(5, 0, 99999);
    due(-1, x.judge(2));
  }

  private static void dueNumbers(WheatCounts x, int sheet, int... numbers) {
    for (int i = 0; i < 6; i++) {
      x.sow(i, 0, i < numbers.length ? numbers[i] : 0);
    }
    due(numbers.length == 6 ? -1 : numbers.length, x.judge(sheet));
  }

  private static void move() {
    begin(32);
    WheatCounts x = new WheatCounts();
    due(BEYOND, x.move(4, 0, 0, 0, 0));
    due(BEYOND, x.move(0, 0, -1, 0, 0));
    due(NONE, x.move(0, 0, 1, 0, 0));
    fill(x, 0, 8, 1, 2, 3, 4, 5, 6);
    due(NONE, x.move(0, 0, 1, 0, -1));
    due(NONE, x.move(1, 0, 0, 0, 0));
    fill(x, 1, 16, 9, 9, 9);
    due(KIND, x.move(0, 0, 1, 0, -1));
    due(4, x.move(0, 0, 0, 2, 4));
    dueNumbers(x, 0, 1, 2, 1, 2, 3, 4);
    due(5, x.move(0, 1, 0, 0, 5));
    dueNumbers(x, 0, 2, 1, 2, 3, 4, 4);
    fill(x, 1, 8, 9, 8, 7);
    due(2, x.move(1, 1, 0, 4, 2));
    dueNumbers(x, 0, 2, 1, 2, 3, 8, 7);
    dueNumbers(x, 1, 9, 8, 7);
    due(BEYOND, x.move(1, 1, 0, 0, 3));
    due(BEYOND, x.move(0, 0, 1, 1, 3));
    due(BEYOND, x.move(0, 0, 1, 0, -1));
    due(BEYOND, x.move(0, -1, 1, 0, 1));
    due(BEYOND, x.move(0, 0, 1, -1, 1));
    due(BEYOND, x.move(0, MOST, 1, 0, MOST));
    due(BEYOND, x.move(0, 1, 1, 1, MOST));
    due(0, x.move(0, 6, 1, 3, 0));
    due(BEYOND, x.move(0, 7, 1, 0, 0));
    due(BEYOND, x.move(0, 0, 1, 4, 0));
    dueNumbers(x, 0, 2, 1, 2, 3, 8, 7);
  }

  private static void weeds() {
    begin(33);
    WheatCounts x = made(3);
    due(BEYOND, x.weeds(4));
    due(BEYOND, x.weeds(-1));
    due(NONE, x.weeds(0));
    fill(x, 0, 32, 99, 0, 5, 6);
    due(3, x.weeds(0));
    due(99, x.ofCell(0, 1));
    due(0, x.ofCell(1, 1));
    due(5, x.ofCell(2, 1));
    fill(x, 0, 32, 7, 100, 8);
    due(1, x.weeds(0));
    due(7, x.ofCell(0, 1));
    due(0, x.ofCell(1, 1));
    due(5, x.ofCell(2, 1));
    fill(x, 0, 16, 1, 2, -1);
    due(2, x.weeds(0));
    fill(x, 0, 8, 200);
    due(0, x.weeds(0));
    fill(x, 0, 8, 9);
    due(1, x.weeds(0));
    due(9, x.ofCell(0, 1));
    due(2, x.told(1));
  }

  private static void judge() {
    begin(34);
    WheatCounts x = made(3);
    due(BEYOND, x.judge(4));
    due(BEYOND, x.judge(-1));
    due(NONE, x.judge(3));
    sowAll(x, 0, 5, 6, 99999);
    fill(x, 3, 32, 5, 6, 99999);
    due(-1, x.judge(3));
    x.put(3, 2, 6);
    due(2, x.judge(3));
    x.put(3, 0, 6);
    due(0, x.judge(3));
    fill(x, 3, 32, 5, 6);
    due(2, x.judge(3));
    fill(x, 3, 32, 5, 6, 99999, 0);
    due(3, x.judge(3));
    fill(x, 3, 16, 5, 7, 99999, 0);
    due(1, x.judge(3));
    x.sheet(3, 8, 0);
    due(0, x.judge(3));
  }

  private static void image() {
    begin(35);
    WheatCounts x = made(4, 35, 1);
    sowAll(x, 0, 50, 60, 70, 80);
    due(1, x.image());
    due(2, x.image());
    x.hours(1);
    due(3, x.image());
    x.hours(2);
    due(1, x.restore());
    due(4, x.image());
    due(55, x.ofCell(1, 0));
  }

  private static void restore() {
    begin(36);
    WheatCounts x = made(4, 35, 1, 10, 2);
    due(NONE, x.restore());
    sowAll(x, 0, 50, 60, 70, 80);
    sowAll(x, 1, 1, 2, 3, 4);
    x.lay(0, 5);
    x.lay(1, 6);
    x.lay(2, 7);
    x.lead(0, 1, -1);
    read(x, 0, "m");
    read(x, 1, "m+1");
    x.seed(77);
    x.hours(2);
    x.feed('m', 1);
    x.tell(5);
    x.image();
    int[] was = new int[12];
    for (int what = 0; what < 12; what++) {
      was[what] = x.count(what);
    }
    int grain = x.ofCell(1, 0);
    read(x, 0, "");
    read(x, 0, "9");
    read(x, 1, "9");
    x.become(0, 10);
    x.lead(0, 0, 3);
    x.lead(0, 1, 1);
    x.person(0, 0);
    sowAll(x, 1, 9, 9, 9, 9);
    x.lay(0, 0);
    x.lay(1, 0);
    x.lay(2, 0);
    x.loose(5);
    x.tell(6);
    x.tell(7);
    x.sheet(1, 8, 3);
    x.voice(1, 0, 4);
    for (int turn = 0; turn < 2; turn++) {
      due(2, x.restore());
      for (int what = 0; what < 12; what++) {
        due(what == 10 ? 2 : was[what], x.count(what));
      }
      due(grain, x.ofCell(1, 0));
      due(3, x.ofPerson(0, 0));
      due(5, x.ofPerson(0, 1));
      due(0, x.ofPerson(0, 2));
      due(1, x.ofPerson(0, 3));
      due(2, x.ofCell(1, 1));
      due(4, x.law(0, 4, 0, 0));
      due(5, x.law(1, 4, 0, 0));
      due(1, x.text(0));
      due(1, x.check());
      x.hours(20);
    }
    due(NONE, x.move(0, 0, 1, 0, 1));
    due(20, x.trace(0));
    due(2, x.told(2));
    due(2, x.image());
  }

  private static void tell() {
    begin(37);
    WheatCounts x = new WheatCounts();
    for (int i = 1; i <= 20; i++) {
      due(i, x.tell(i == 7 ? LEAST : 0));
    }
    due(FULL, x.tell(0));
    due(20, x.count(9));
    due(7, x.check());
    due(1, x.tell(0));
  }

  private static void check() {
    begin(38);
    WheatCounts x = made(6, 0, 0);
    due(0, x.check());
    x.tell(4);
    x.tell(8);
    x.tell(12);
    due(0, x.check());
    due(0, x.count(9));
    due(0, x.count(2));
    due(0, x.count(7));
    x.tell(4);
    x.tell(8);
    x.tell(13);
    x.tell(99);
    due(3, x.check());
    due(0, x.check());
    x.tell(0);
    due(1, x.check());
    due(0, x.told(1) + x.told(2));
  }

  private static void count() {
    begin(39);
    WheatCounts x = made(9, 30, 0, 0, 5);
    sowAll(x, 0, 1, 2, 3);
    x.lay(0, 11);
    x.lay(1, 12);
    x.lay(2, 8);
    x.hours(1);
    x.become(0, 35);
    x.sow(0, 0, 9);
    x.hours(3);
    x.feed(0, 7);
    x.tell(3);
    x.tell(3);
    x.voice(0, 3, 2);
    x.seed(-6);
    int[] now = {9, 2, 4, 11, 12, 8, 9, 2 + 3 + 8, 7, 2, 5, -6};
    x.sow(4, 0, 0);
    x.sow(6, 0, 0);
    x.sow(5, 0, 8);
    for (int what = 0; what < 12; what++) {
      due(now[what], x.count(what));
    }
    due(BEYOND, x.count(12));
    due(BEYOND, x.count(-1));
    due(BEYOND, x.count(LEAST));
  }

  private static void told() {
    begin(40);
    WheatCounts x = new WheatCounts();
    for (int k = 1; k <= 5; k++) {
      due(0, x.told(k));
    }
    due(BEYOND, x.told(0));
    due(BEYOND, x.told(6));
    due(BEYOND, x.told(LEAST));
    due(3, x.told(1));
    x.field(99);
    x.watch();
    x.restore();
    x.person(30, 0);
    x.field(6);
    x.as(0, 1);
    x.as(0, 0);
    for (int i = 0; i < 7; i++) {
      x.feed(0, 8);
    }
    x.feed(0, 8);
    due(4, x.told(1));
    due(2, x.told(2));
    due(1, x.told(3));
    due(2, x.told(4));
    due(1, x.told(5));
    x.text(0);
    due(4, x.told(1));
  }
}
