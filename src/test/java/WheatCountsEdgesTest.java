import java.util.ArrayList;
import java.util.List;

/**
 * A test of its own for each sentence of the document that names a boundary: the last value that is taken and the
 * first that isn't, the empty and the full, what is cut, held or goes round, and each ERROR that a call can answer,
 * in the order in which they are asked, with nothing changed but what told() tells.
 */
public final class WheatCountsEdgesTest {
  private static final int LOW = -1000000000;
  private static final int BEYOND = -1000000001;
  private static final int NONE = -1000000002;
  private static final int STATE = -1000000003;
  private static final int FULL = -1000000004;
  private static final int KIND = -1000000005;
  private static final int LEAST = Integer.MIN_VALUE;
  private static final int MOST = Integer.MAX_VALUE;
  private static final int LOOKER = 0;
  private static final int LOVER = 10;
  private static final int SCARECROW = 20;
  private static final int THIEF = 30;
  private static final int BRIDE = 40;
  private static final int MIRROR = 50;
  private static final int STEWARD = 60;
  private static final int GRAINS = 0;
  private static final int WEEDS = 1;
  private static final int HEDGES = 0;
  private static final int LEAN = 1;
  private static final int FOG = 2;
  private static final int AT = 0;
  private static final int WAY = 1;
  private static String sentence = "";
  private static int tests = 0;
  private static int wrong = 0;

  private interface Body {
    void run();
  }

  private interface Call {
    int on(WheatCounts x);
  }

  private interface Made {
    WheatCounts make();
  }

  public static void main(String[] args) {
    theField();
    thePeople();
    anHour();
    anEvening();
    theTexts();
    theFaults();
    whatTextsGive();
    promises1To5();
    promises6To10();
    promises11To13();
    promises14To17();
    promises18And19();
    promise20();
    promises21And22();
    promises23And24();
    promises25And26();
    promises27To29();
    promises30And31();
    promise32();
    promises33And34();
    promises35And36();
    promises37To40();
    System.out.println(tests + " sentences were tested, " + wrong + " answers are not as due");
    if (wrong != 0) {
      System.exit(1);
    }
  }

  // ---- how it is asked

  private static void test(String words, Body body) {
    sentence = words;
    tests++;
    body.run();
  }

  private static void due(int want, int got) {
    if (want != got) {
      fail("answered " + got + ", due is " + want);
    }
  }

  private static void fail(String why) {
    wrong++;
    StringBuilder lines = new StringBuilder();
    for (StackTraceElement place : new Throwable().getStackTrace()) {
      if (place.getLineNumber() > 0 && place.getMethodName().startsWith("lambda")) {
        lines.append(" ").append(place.getLineNumber());
      }
    }
    System.out.println(sentence + " (lines" + lines + "): " + why);
  }

  /** The ERROR is answered, told() tells one more of it, and nothing else has changed. */
  private static void refused(Made made, int error, Call... calls) {
    for (int i = 0; i < calls.length; i++) {
      WheatCounts asked = made.make();
      WheatCounts left = made.make();
      int got = calls[i].on(asked);
      if (got != error) {
        fail("call " + i + " answered " + got + ", due is " + error);
      }
      for (int k = 1; k <= 5; k++) {
        due(left.told(k) + (LOW - k == error ? 1 : 0), asked.told(k));
      }
      if (!allOf(asked).equals(allOf(left))) {
        fail("call " + i + " changed more than what told() tells");
      }
    }
  }

  /** All that can be asked of an object; what only comes out by changing it comes last. */
  private static List<Integer> allOf(WheatCounts x) {
    List<Integer> all = new ArrayList<>();
    addEstate(all, x);
    for (int i = 0; i < x.count(10); i++) {
      all.add(x.trace(i));
    }
    addSheets(all, x);
    all.add(x.check());
    all.add(x.text(0));
    all.add(x.law(0, 4, 3, 2));
    all.add(x.restore());
    addEstate(all, x);
    all.add(x.check());
    all.add(x.text(1));
    all.add(x.law(1, 4, 3, 2));
    all.add(x.image());
    return all;
  }

  private static void addEstate(List<Integer> all, WheatCounts x) {
    for (int what = 0; what < 12; what++) {
      all.add(x.count(what));
    }
    for (int cell = 0; cell < x.count(0); cell++) {
      all.add(x.ofCell(cell, GRAINS));
      all.add(x.ofCell(cell, WEEDS));
    }
    for (int p = 0; p < x.count(1); p++) {
      for (int what = 0; what < 4; what++) {
        all.add(x.ofPerson(p, what));
      }
    }
    for (int a = 0; a < 3; a++) {
      all.add(x.law(0, a, 9 - a, 2));
      all.add(x.law(1, a, 9 - a, 2));
    }
  }

  /** Numbers from 0 to 99 come out as WEEDS of CELL 0; bits by what is left of larger ones. */
  private static void addSheets(List<Integer> all, WheatCounts x) {
    for (int s = 0; s < 4; s++) {
      for (int i = 0; x.move(s, i, s, 0, 1) == 1; i++) {
        all.add(x.weeds(s) > 0 ? x.ofCell(0, WEEDS) : -1);
      }
      all.add(x.put(s, 0, 256 + 7));
      all.add(x.weeds(s) > 0 ? x.ofCell(0, WEEDS) : -1);
      all.add(x.put(s, 0, 65536 + 8));
      all.add(x.weeds(s) > 0 ? x.ofCell(0, WEEDS) : -1);
    }
  }

  // ---- objects to ask

  /** An object of n CELLS with PEOPLE, told as km, cell, km, cell, .. */
  private static WheatCounts made(int n, int... people) {
    WheatCounts x = new WheatCounts();
    x.field(n);
    for (int i = 0; i + 1 < people.length; i += 2) {
      x.person(people[i], people[i + 1]);
    }
    return x;
  }

  /** As made(), and nobody SEES but where they are. */
  private static WheatCounts dark(int n, int... people) {
    WheatCounts x = made(n, people);
    read(x, 0, "0");
    return x;
  }

  private static void feed(WheatCounts x, String text) {
    for (int i = 0; i < text.length(); i += 8) {
      int n = Math.min(8, text.length() - i);
      long word = 0;
      for (int k = 0; k < n; k++) {
        word |= (long) text.charAt(i + k) << 8 * k;
      }
      x.feed(word, n);
    }
  }

  /** Reads a text for a use: what text() answers. */
  private static int read(WheatCounts x, int use, String text) {
    feed(x, text);
    return x.text(use);
  }

  private static int faultOf(String text) {
    return -10 - read(new WheatCounts(), 0, text);
  }

  private static int given(String text, int a, int b, int c) {
    WheatCounts x = new WheatCounts();
    due(1, read(x, 1, text));
    return x.law(1, a, b, c);
  }

  private static void sowAll(WheatCounts x, int what, int... numbers) {
    for (int i = 0; i < numbers.length; i++) {
      x.sow(i, what, numbers[i]);
    }
  }

  private static void fill(WheatCounts x, int sheet, int bits, int... numbers) {
    x.sheet(sheet, bits, numbers.length);
    for (int i = 0; i < numbers.length; i++) {
      x.put(sheet, i, numbers[i]);
    }
  }

  private static void dueGrains(WheatCounts x, int... numbers) {
    for (int i = 0; i < numbers.length; i++) {
      due(numbers[i], x.ofCell(i, GRAINS));
    }
  }

  /** Goes on until HOUR is as told. */
  private static WheatCounts until(WheatCounts x, int hour) {
    // few calls: an object is used for 512 of them
    int now = x.count(2);
    while (now < hour) {
      int n = Math.min(50, hour - now);
      x.hours(n);
      now += n;
    }
    return x;
  }

  /** Tells what GRAINS are together behind 1 .. n HOURS. */
  private static void tellRight(WheatCounts x, int n) {
    for (int i = 1; i <= n; i++) {
      int sum = 0;
      for (int cell = 0; cell < x.count(0); cell++) {
        sum += x.then(i, cell);
      }
      x.tell(sum);
    }
  }

  /** Something of all: PEOPLE, TEXTS, THE TAPE, numbers that wait, SHEETS, THE TRACE, an IMAGE, ERRORS. */
  private static WheatCounts rich() {
    WheatCounts x = made(5, 34, 1, 12, 0, 25, 3, 68, 4);
    sowAll(x, GRAINS, 50, 60, 70, 80, 90);
    sowAll(x, WEEDS, 1, 0, 2, 0, 3);
    x.lay(HEDGES, 2);
    x.lay(LEAN, 5);
    x.lay(FOG, 4);
    read(x, 0, "m/2+f/2");
    read(x, 1, "g/9+m");
    x.seed(7);
    x.hours(3);
    feed(x, "m+2");
    tellRight(x, 2);
    x.image();
    x.image();
    x.text(0);
    read(x, 1, "m");
    x.lead(0, AT, 2);
    x.lead(1, WAY, -1);
    x.become(2, 56);
    x.lay(HEDGES, 8);
    x.lay(LEAN, 3);
    x.lay(FOG, 1);
    x.hours(2);
    x.seed(-5);
    feed(x, "m*3");
    x.check();
    tellRight(x, 3);
    x.voice(3, 3, 5);
    fill(x, 0, 8, 5, 6, 7);
    fill(x, 1, 16, 1, 2);
    fill(x, 2, 8, 9);
    x.field(0);
    x.trace(-1);
    x.field(5);
    x.as(0, 1);
    return x;
  }

  /** Eight PEOPLE, 20 numbers that wait, THE TAPE of 50 bytes. */
  private static WheatCounts crowded() {
    WheatCounts x = made(10, 0, 0, 11, 1, 22, 2, 33, 3, 44, 4, 55, 5, 66, 6, 7, 9);
    for (int i = 0; i < 20; i++) {
      x.tell(i);
    }
    feed(x, "12345678".repeat(6) + "90");
    return x;
  }

  private static WheatCounts late(int hour) {
    return until(made(3, 14, 1), hour);
  }

  // ---- the terms: the field, people

  private static void theField() {
    test("quotients are cut toward 0, below 0 too", () -> {
      WheatCounts x = new WheatCounts();
      due(4, x.law(0, 0, -4, 0));
      due(4, x.law(0, 0, -5, 0));
      due(3, x.law(0, 0, -2, 0));
      due(3, x.law(0, 0, 2, 0));
      due(2, x.law(0, 0, 3, 0));
      due(2, x.law(0, 0, 5, 0));
    });
    test("HEDGES: bit k is the place between k and k + 1", () -> {
      WheatCounts x = made(10, 0, 0);
      read(x, 0, "9");
      for (int k = 0; k < 9; k++) {
        x.lay(HEDGES, 1 << k);
        x.lead(0, AT, k);
        due((1 << k + 1) - 1, x.ofPerson(0, 7));
        x.lead(0, AT, k + 1);
        due(1023 - ((1 << k + 1) - 1), x.ofPerson(0, 7));
      }
    });
    test("LEAN: bit k is the ear of k on that of k + 1", () -> {
      for (int k = 0; k < 9; k++) {
        WheatCounts x = made(10);
        x.sow(k, GRAINS, 10);
        x.lay(LEAN, 1 << k);
        due(10, x.evening());
        due(1, x.ofCell(k, GRAINS));
        due(9, x.ofCell(k + 1, GRAINS));
      }
    });
    test("LEAN: the last one leans on none", () -> {
      for (int n = 3; n <= 10; n++) {
        WheatCounts x = made(n);
        x.sow(n - 1, GRAINS, 30);
        due(0, x.lay(LEAN, 1 << n - 1));
        due(30, x.evening());
        due(30, x.ofCell(n - 1, GRAINS));
      }
    });
    test("STOLEN is held at 99999", () -> {
      WheatCounts x = dark(3, THIEF, 0, THIEF, 1);
      read(x, 1, "99");
      for (int i = 1; i <= 10; i++) {
        x.sow(0, GRAINS, 99999);
        x.sow(1, GRAINS, 99999);
        x.hours(50);
        due(9900 * i, x.count(6));
      }
      x.sow(0, GRAINS, 99999);
      x.sow(1, GRAINS, 99999);
      x.hours(5);
      due(99990, x.count(6));
      x.sow(0, GRAINS, 9);
      x.sow(1, GRAINS, 1);
      due(99999, x.then(1, -1));
      x.hours(1);
      due(99999, x.count(6));
      x.sow(0, GRAINS, 99);
      due(99999, x.then(1, -1));
      due(0, x.hours(1));
      due(99999, x.count(6));
    });
  }

  private static void thePeople() {
    test("SIGHT of each KIND at v 0 and 9, m 0 to 9", () -> {
      WheatCounts x = made(3, 0, 0);
      for (int v = 0; v < 10; v += 9) {
        read(x, 0, "" + v);
        for (int km = 0; km < 70; km++) {
          x.become(0, km);
          int kind = km / 10;
          boolean halves = kind == 2 || kind == 5;
          int more = kind == 4 ? 1 : kind == 6 ? km % 10 % 3 : 0;
          due((halves ? v / 2 : v) + more, x.ofPerson(0, 4));
        }
      }
    });
    test("SIGHT: v by 2 is cut, for a MIRROR too", () -> {
      WheatCounts x = made(3, SCARECROW, 0, MIRROR + 1, 0);
      int[] halves = {0, 0, 1, 1, 2, 2, 3, 3, 4, 4};
      for (int v = 0; v < 10; v++) {
        read(x, 0, "" + v);
        due(halves[v], x.ofPerson(0, 4));
        due(halves[v], x.ofPerson(1, 4));
      }
    });
    test("SIGHT: the rest of m by 3 is 0 at 0, 3, 6, 9", () -> {
      WheatCounts x = dark(3, STEWARD, 0);
      int[] rests = {0, 1, 2, 0, 1, 2, 0, 1, 2, 0};
      for (int m = 0; m < 10; m++) {
        x.become(0, STEWARD + m);
        due(rests[m], x.ofPerson(0, 4));
      }
    });
    test("SIGHT is not held once more: a BRIDE's is 10, a STEWARD's 11", () -> {
      WheatCounts x = made(3, BRIDE, 0, STEWARD + 8, 0);
      read(x, 0, "99");
      due(10, x.ofPerson(0, 4));
      due(11, x.ofPerson(1, 4));
    });
    test("SEES: with SIGHT 0 the CELL where one is AT, and no other", () -> {
      WheatCounts x = dark(5, 0, 0);
      for (int at = 0; at < 5; at++) {
        x.lead(0, AT, at);
        due(1 << at, x.ofPerson(0, 7));
      }
    });
    test("SEES: up to so many to either side, as far as there are CELLS", () -> {
      WheatCounts x = made(10, 0, 0);
      read(x, 0, "2");
      int[] sets = {7, 15, 31, 62, 124, 248, 496, 992, 896 + 64, 896};
      for (int at = 0; at < 10; at++) {
        x.lead(0, AT, at);
        due(sets[at], x.ofPerson(0, 7));
      }
      read(x, 0, "9");
      for (int at = 0; at < 10; at++) {
        x.lead(0, AT, at);
        due(1023, x.ofPerson(0, 7));
      }
    });
    test("SEES: a HEDGE between stops the eye, all that is behind it too", () -> {
      WheatCounts x = made(9, 0, 4);
      read(x, 0, "3");
      due(2 + 4 + 8 + 16 + 32 + 64 + 128, x.ofPerson(0, 7));
      x.lay(HEDGES, 8);
      due(16 + 32 + 64 + 128, x.ofPerson(0, 7));
      x.lay(HEDGES, 16);
      due(2 + 4 + 8 + 16, x.ofPerson(0, 7));
      x.lay(HEDGES, 2 + 64);
      due(4 + 8 + 16 + 32 + 64, x.ofPerson(0, 7));
      x.lay(HEDGES, 1 + 128);
      due(2 + 4 + 8 + 16 + 32 + 64 + 128, x.ofPerson(0, 7));
      x.lay(HEDGES, 255);
      due(16, x.ofPerson(0, 7));
    });
    test("SEES: a MIRROR also CELL n - 1 - k, whatever HEDGE is between", () -> {
      WheatCounts x = dark(3, MIRROR, 0);
      x.lay(HEDGES, 3);
      due(1 + 4, x.ofPerson(0, 7));
      x.lead(0, AT, 1);
      due(2, x.ofPerson(0, 7));
      WheatCounts wide = dark(10, MIRROR, 4);
      due(16 + 32, wide.ofPerson(0, 7));
      wide.lead(0, AT, 0);
      due(1 + 512, wide.ofPerson(0, 7));
      read(wide, 0, "2");
      wide.lay(HEDGES, 511 - 1);
      due(1 + 2 + 256 + 512, wide.ofPerson(0, 7));
      wide.become(0, SCARECROW);
      due(1 + 2, wide.ofPerson(0, 7));
    });
    test("COUNTS of each KIND; a MIRROR's one more if m is odd", () -> {
      int[] counts = {2, 4, 1, 0, 4, 1, 2};
      WheatCounts x = made(3, 0, 0);
      for (int km = 0; km < 70; km++) {
        x.become(0, km);
        due(counts[km / 10] + (km / 10 == 5 ? km & 1 : 0), x.ofPerson(0, 5));
      }
    });
    test("TAKES of each KIND; a STEWARD's half is cut", () -> {
      WheatCounts x = made(3, 0, 0);
      for (int km = 0; km < 70; km++) {
        x.become(0, km);
        int kind = km / 10;
        due(kind == 3 ? km % 10 : kind == 6 ? km % 10 / 2 : 0, x.ofPerson(0, 6));
      }
      read(x, 1, "99");
      x.become(0, STEWARD);
      due(49, x.ofPerson(0, 6));
      x.become(0, THIEF);
      due(99, x.ofPerson(0, 6));
      x.become(0, MIRROR);
      due(0, x.ofPerson(0, 6));
    });
  }

  // ---- the terms: hours, evenings

  private static void anHour() {
    test("an HOUR: the half of what all COUNT together is cut, not of each", () -> {
      int[] grains = {0, 0, 1, 1, 2, 2, 3, 3, 4};
      for (int people = 0; people <= 8; people++) {
        WheatCounts x = dark(3);
        for (int i = 0; i < people; i++) {
          x.person(SCARECROW, 1);
        }
        due(grains[people], x.hours(1));
        due(grains[people], x.ofCell(1, GRAINS));
      }
    });
    test("an HOUR: eight LOVERS make the most, 16", () -> {
      WheatCounts x = made(3);
      for (int i = 0; i < 8; i++) {
        x.person(i < 4 ? LOVER : BRIDE, i % 3);
      }
      due(48, x.hours(1));
    });
    test("an HOUR: GRAINS are held at 99999 and at 0, both being done", () -> {
      WheatCounts x = dark(4, LOVER, 0, LOVER, 1, LOVER, 2, LOVER, 3);
      sowAll(x, GRAINS, 99999, 0, 99998, 1);
      sowAll(x, WEEDS, 2, 3, 0, 2);
      x.hours(1);
      dueGrains(x, 99999, 0, 99999, 1);
      sowAll(x, GRAINS, 99999, 2, 99996, 0);
      sowAll(x, WEEDS, 1, 3, 0, 1);
      x.hours(1);
      dueGrains(x, 99999, 1, 99998, 1);
      sowAll(x, GRAINS, 97, 98, 99999, 0);
      sowAll(x, WEEDS, 99, 99, 3, 99);
      x.hours(1);
      dueGrains(x, 0, 1, 99998, 0);
    });
    test("an HOUR: as many as there are at most are TAKEN, by numbers", () -> {
      WheatCounts x = dark(3, THIEF + 5, 1, THIEF + 5, 1, THIEF + 5, 1);
      x.sow(1, GRAINS, 7);
      due(0, x.hours(1));
      due(7, x.count(6));
      x.sow(1, GRAINS, 15);
      due(0, x.hours(1));
      due(22, x.count(6));
      x.sow(1, GRAINS, 16);
      due(1, x.hours(1));
      due(37, x.count(6));
      WheatCounts half = dark(3, THIEF, 1, THIEF, 1);
      read(half, 1, "g/2+1");
      half.sow(1, GRAINS, 10);
      // 6 of 10, then 3 of the 4 that are left
      due(1, half.hours(1));
      due(9, half.count(6));
    });
    test("an HOUR: they TAKE when the ears have grown and WEEDS were at them", () -> {
      WheatCounts x = dark(3, LOVER, 1, THIEF + 9, 1);
      due(0, x.hours(1));
      due(2, x.count(6));
      x.sow(1, GRAINS, 5);
      x.sow(1, WEEDS, 3);
      due(0, x.hours(1));
      due(2 + 4, x.count(6));
    });
    test("an HOUR: they TAKE where they are AT, and go on then", () -> {
      WheatCounts x = dark(3, THIEF + 4, 0);
      sowAll(x, GRAINS, 10, 10, 10);
      x.lead(0, WAY, 1);
      x.hours(1);
      dueGrains(x, 6, 10, 10);
      x.hours(2);
      dueGrains(x, 6, 6, 6);
      due(12, x.count(6));
    });
    test("an HOUR: all have grown before the first one goes on", () -> {
      WheatCounts x = dark(3, LOVER, 0, LOVER, 1);
      x.lead(0, WAY, 1);
      x.lead(1, WAY, -1);
      x.hours(1);
      dueGrains(x, 2, 2, 0);
      due(1, x.ofPerson(0, 2));
      due(0, x.ofPerson(1, 2));
      x.hours(1);
      dueGrains(x, 4, 4, 0);
    });
    test("an HOUR: at either end, if there is no CELL, WAY is the other one from then on", () -> {
      WheatCounts x = made(3, 0, 0, 0, 2, 0, 1);
      x.lead(0, WAY, -1);
      x.lead(1, WAY, 1);
      int[][] first = {{0, 1}, {1, 1}, {2, 1}, {2, -1}, {1, -1}, {0, -1}, {0, 1}};
      for (int i = 0; i < 7; i++) {
        x.hours(1);
        due(first[i][0], x.ofPerson(0, 2));
        due(first[i][1], x.ofPerson(0, 3));
        due(2 - first[i][0], x.ofPerson(1, 2));
        due(-first[i][1], x.ofPerson(1, 3));
        due(1, x.ofPerson(2, 2));
        due(0, x.ofPerson(2, 3));
      }
    });
    test("an HOUR: HOUR is 1 more when all is done: TEXTS have it as it was", () -> {
      WheatCounts x = made(3, THIEF, 1, LOOKER, 1);
      sowAll(x, GRAINS, 0, 90, 0);
      read(x, 0, "h");
      read(x, 1, "h*10");
      due(90 + 1, x.hours(1));
      due(0, x.count(6));
      due(91 + 3 - 10, x.hours(1));
      due(10, x.count(6));
      due(2, x.count(2));
    });
    test("an HOUR without PEOPLE: WEEDS alone", () -> {
      WheatCounts x = made(3);
      sowAll(x, GRAINS, 1, 99, 99999);
      sowAll(x, WEEDS, 0, 99, 99);
      due(1 + 0 + 99900, x.hours(1));
      dueGrains(x, 1, 0, 99900);
    });
  }

  private static void anEvening() {
    test("EVENING: the rest by 9 stays: 0 to 8 are kept, of 9 all goes, of 10 one stays", () -> {
      WheatCounts x = made(3);
      x.lay(LEAN, 1);
      for (int g = 0; g <= 28; g++) {
        sowAll(x, GRAINS, g, 0, 0);
        due(g, x.evening());
        dueGrains(x, g % 9, g - g % 9, 0);
      }
    });
    test("EVENING: one that does not LEAN gives nothing", () -> {
      WheatCounts x = made(3);
      sowAll(x, GRAINS, 99, 99, 99);
      due(297, x.evening());
      dueGrains(x, 99, 99, 99);
    });
    test("EVENING: by numbers, so that what is given goes on at once", () -> {
      WheatCounts x = made(10);
      sowAll(x, GRAINS, 9, 8, 7, 6, 5, 4, 3, 2, 1, 0);
      x.lay(LEAN, 1023);
      due(45, x.evening());
      dueGrains(x, 0, 8, 7, 6, 5, 4, 3, 2, 1, 9);
      sowAll(x, GRAINS, 9, 1, 0, 0, 0, 0, 0, 0, 0, 0);
      x.lay(LEAN, 2);
      due(10, x.evening());
      dueGrains(x, 9, 1);
      x.lay(LEAN, 3);
      due(10, x.evening());
      dueGrains(x, 0, 1, 9);
    });
    test("EVENING: what comes is held at 99999; what is given is gone", () -> {
      WheatCounts x = made(3);
      x.lay(LEAN, 1);
      sowAll(x, GRAINS, 9, 99990, 0);
      due(99999, x.evening());
      dueGrains(x, 0, 99999, 0);
      sowAll(x, GRAINS, 10, 99991, 0);
      due(1 + 99999, x.evening());
      dueGrains(x, 1, 99999, 0);
      sowAll(x, GRAINS, 99999, 99999, 99999);
      x.lay(LEAN, 3);
      due(99999, x.evening());
      dueGrains(x, 0, 0, 99999);
    });
  }

  // ---- the terms: texts

  private static void theTexts() {
    test("THE TAPE: a TEXT of 50 bytes", () -> {
      String text = "1+".repeat(24) + "75";
      due(50, text.length());
      due(99, given(text, 0, 0, 0));
      String nested = "!!!(1)+(((((" + "1+".repeat(15) + "m)))))-3";
      due(50, nested.length());
      due(0 + 15 + 7 - 3, given(nested, 7, 0, 0));
    });
    test("TEXTS: one NUMBER, one NAME, is a TEXT", () -> {
      due(0, given("0", 5, 6, 7));
      due(5, given("m", 5, 6, 7));
      due(6, given("g", 5, 6, 7));
      due(7, given("h", 5, 6, 7));
    });
    test("TEXTS: a NUMBER has 1 to 4 digits", () -> {
      due(7, given("7", 0, 0, 0));
      due(76, given("76", 0, 0, 0));
      due(1, given("765=700+65", 0, 0, 0));
      due(1, given("9999=m", 9999, 0, 0));
      due(3, given("0003", 0, 0, 0));
      due(4, faultOf("99999"));
      due(4, faultOf("00000"));
      due(6, faultOf("1+12345"));
      due(6, faultOf("m*0000" + "0"));
    });
    test("TEXTS: at most 5 of ! and ( are open at once", () -> {
      due(1, given("!!!!!0", 0, 0, 0));
      due(8, given("(((((8)))))", 0, 0, 0));
      due(1, given("!(!(!0))", 0, 0, 0));
      due(0, given("(!(!(0)))", 0, 0, 0));
      due(5, faultOf("!!!!!!0"));
      due(5, faultOf("((((((0))))))"));
      due(5, faultOf("!(!(!(0)))"));
      due(5, faultOf("(!(!(!0)))"));
      due(7, faultOf("((((1+!!0))))"));
    });
    test("TEXTS: a ! is open until what it stands ahead of has ended", () -> {
      due(2, given("!!!!!0+!!!!!0", 0, 0, 0));
      due(4, given("((((!0+!0+!0+!0))))", 0, 0, 0));
      due(9, given("(((((4)))))+(((((5)))))", 0, 0, 0));
      due(3, given("!(!(!0))+!(!(!0))+!(!(!0))", 0, 0, 0));
      due(2, given("!(0)+(((((1)))))", 0, 0, 0));
      due(1 + 4, given("!(((!12)))+(((((4)))))", 0, 0, 0));
      due(14, faultOf("!(!(!0))+!(!(!(0)))"));
    });
    test("TEXTS: S, or S < S, S = S, S > S: one of them alone", () -> {
      for (String one : new String[] {"<", "=", ">"}) {
        for (String other : new String[] {"<", "=", ">"}) {
          due(3, faultOf("m" + one + "m" + other + "m"));
          due(5, faultOf("m+m" + one + "m" + other + "m"));
          due(1, read(new WheatCounts(), 0, "(m" + one + "m)" + other + "m"));
          due(1, read(new WheatCounts(), 0, "m" + one + "(m" + other + "m)"));
          due(1, read(new WheatCounts(), 0, "m" + one + "m&m" + other + "m|m" + one + "m"));
        }
      }
    });
    test("TEXTS: no blanks, and no sign ahead of a NUMBER", () -> {
      due(0, faultOf(" 1"));
      due(1, faultOf("1 "));
      due(1, faultOf("1 +1"));
      due(2, faultOf("1+ 1"));
      due(0, faultOf("-1"));
      due(0, faultOf("+1"));
      due(2, faultOf("1--1"));
      due(1, faultOf("1\n"));
      due(1, faultOf("1\u0000"));
    });
  }

  private static void theFaults() {
    test("FAULT: how many there are, if it ends too early; of none 0", () -> {
      due(0, faultOf(""));
      for (String early : new String[] {"!", "(", "m+", "m-", "1*", "1/", "1%", "m<", "m=", "m>", "m&", "m|", "(m", "(m+", "!(m", "((m)"}) {
        due(early.length(), faultOf(early));
      }
      due(50, faultOf("1+".repeat(25)));
      due(50, faultOf("(" + "1+".repeat(24) + "1"));
    });
    test("FAULT: of 50 bytes the last one", () -> {
      due(49, faultOf("1+".repeat(24) + "1x"));
      due(49, faultOf("1+".repeat(24) + "1)"));
    });
    test("FAULT: of each byte ahead of all others", () -> {
      for (int c = 0; c < 256; c++) {
        WheatCounts x = new WheatCounts();
        x.feed(c, 1);
        boolean whole = "0123456789mfh".indexOf(c) >= 0;
        boolean early = "!(".indexOf(c) >= 0;
        due(whole ? 1 : early ? -11 : -10, x.text(0));
        x.feed(c, 1);
        due("0123456789mgh".indexOf(c) >= 0 ? 1 : early ? -11 : -10, x.text(1));
      }
    });
    test("FAULT: of each byte behind a NAME, a NUMBER, a bracket", () -> {
      for (String ahead : new String[] {"m", "1234", "(m)", "!m", "!(1)"}) {
        for (int c = 0; c < 256; c++) {
          WheatCounts x = new WheatCounts();
          feed(x, ahead);
          x.feed(c, 1);
          boolean goesOn = "+-*/%<=>&|".indexOf(c) >= 0;
          due(-10 - ahead.length() - (goesOn ? 1 : 0), x.text(0));
        }
      }
    });
    test("FAULT: a byte from 128 on is none of the signs", () -> {
      due(1, faultOf("1" + (char) ('+' + 128) + "1"));
      due(0, faultOf("" + (char) ('m' + 128)));
      due(1, faultOf("1" + (char) 255));
    });
    test("FAULT: a bracket that was not opened, one that holds nothing", () -> {
      due(0, faultOf(")"));
      due(1, faultOf("1)"));
      due(3, faultOf("(1))"));
      due(1, faultOf("()"));
      due(2, faultOf("!()"));
      due(3, faultOf("(1+)"));
      due(3, faultOf("(m)m"));
      due(1, faultOf("m(m)"));
      due(1, faultOf("m!m"));
    });
    test("FAULT: a TEXT behind one has nothing of it: digits, brackets, signs", () -> {
      WheatCounts x = new WheatCounts();
      for (String early : new String[] {"12", "12345", "1234x", "(((((", "!!!!!", "((1+2*", "m<", "m<m", "m|m&m<m+m*", "(", "1+", ""}) {
        for (String whole : new String[] {"34", "(((((5)))))", "!!!!!6", "7<8", "m"}) {
          read(x, 0, early);
          due(1, read(x, 0, whole));
        }
        read(x, 0, early);
        due(-11, read(x, 0, "1)"));
        read(x, 0, early);
        due(-10, read(x, 0, "+1"));
        read(x, 0, early);
        due(-15, read(x, 0, "((((((1"));
      }
      read(x, 1, "((((9");
      due(1, read(x, 1, "2*3"));
      due(6, x.law(1, 0, 0, 0));
    });
    test("FAULT: NAMES of the other USE", () -> {
      WheatCounts x = new WheatCounts();
      due(-10, read(x, 0, "g"));
      due(-12, read(x, 0, "m+g"));
      due(1, read(x, 0, "f"));
      due(-10, read(x, 1, "f"));
      due(-12, read(x, 1, "m+f"));
      due(1, read(x, 1, "g"));
    });
  }

  private static void whatTextsGive() {
    test("TEXTS give ints that wrap", () -> {
      due(1, given("m+1=g", MOST, LEAST, 0));
      due(1, given("m-1=g", LEAST, MOST, 0));
      due(1, given("m*2=0", LEAST, 0, 0));
      due(1, given("m*m=1", MOST, 0, 0));
      due(1, given("0-m=m", LEAST, 0, 0));
      due(1, given("9999*9999*9999=m", (int) (9999L * 9999L * 9999L), 0, 0));
    });
    test("TEXTS: / is cut toward 0, % the rest that it leaves", () -> {
      due(1, given("m/2=g", -7, -3, 0));
      due(1, given("m/g=0-3", 7, -2, 0));
      due(1, given("m%2=g", -7, -1, 0));
      due(1, given("m%g=1", 7, -2, 0));
      due(1, given("m/g=3", -7, -2, 0));
      due(1, given("m%g=0-1", -7, -2, 0));
    });
    test("TEXTS: / and % by 0 are 0, and go on", () -> {
      due(5, given("m/0+5", 9, 0, 0));
      due(5, given("m%0+5", 9, 0, 0));
      due(5, given("m/(g-h)+5", 9, 4, 4));
      due(5, given("m%(g-h)+5", LEAST, 4, 4));
    });
    test("TEXTS: / and % of the least int by -1", () -> {
      due(1, given("m/(0-1)=m", LEAST, 0, 0));
      due(1, given("m%(0-1)=0", LEAST, 0, 0));
      due(1, given("m%g=0&m/g=m", LEAST, -1, 0));
    });
    test("TEXTS: what is not 0 is true, below 0 too; | & ! < = > give 1 or 0", () -> {
      int[] values = {LEAST, -1, 0, 1, 2, MOST};
      for (int a : values) {
        for (int b : values) {
          // 5 more, so that what is below 0 isn't held
          due(a != 0 || b != 0 ? 6 : 5, given("(m|g)+5", a, b, 0));
          due(a != 0 && b != 0 ? 6 : 5, given("(m&g)+5", a, b, 0));
          due(a < b ? 6 : 5, given("(m<g)+5", a, b, 0));
          due(a == b ? 6 : 5, given("(m=g)+5", a, b, 0));
          due(a > b ? 6 : 5, given("(m>g)+5", a, b, 0));
        }
        due(a == 0 ? 6 : 5, given("!m+5", a, 0, 0));
        due(a == 0 ? 5 : 6, given("!!m+5", a, 0, 0));
      }
    });
    test("TEXTS: all is worked out, and none of it stops the rest", () -> {
      due(1, given("1|1/0", 0, 0, 0));
      due(0, given("0&1%0", 0, 0, 0));
      due(1, given("!(m/0|m%0)&!(g/(1-1))", LEAST, MOST, 0));
    });
    test("TEXTS: what is nearer is done first, alike ones from the left", () -> {
      due(1, given("1|0&0", 0, 0, 0));
      due(0, given("0&1|0", 0, 0, 0));
      due(1, given("2&3=3", 0, 0, 0));
      due(1, given("1+1<3", 0, 0, 0));
      due(0, given("0<1+0-1", 0, 0, 0));
      due(7, given("1+2*3", 0, 0, 0));
      due(5, given("9-3-1", 0, 0, 0));
      due(7, given("9-3+1", 0, 0, 0));
      due(8, given("16/4*2", 0, 0, 0));
      due(1, given("16/8%2+1*1", 0, 0, 0));
      due(2, given("!0*2", 0, 0, 0));
      due(2, given("!1+2", 0, 0, 0));
      due(0, given("!(1+2)", 0, 0, 0));
    });
    test("USES: SIGHT is held within 0 to 9, THEFT within 0 to 99", () -> {
      WheatCounts x = new WheatCounts();
      read(x, 0, "m");
      read(x, 1, "m");
      int[][] sight = {{LEAST, 0}, {-1, 0}, {0, 0}, {1, 1}, {8, 8}, {9, 9}, {10, 9}, {MOST, 9}};
      for (int[] two : sight) {
        due(two[1], x.law(0, two[0], 0, 0));
      }
      int[][] theft = {{LEAST, 0}, {-1, 0}, {0, 0}, {98, 98}, {99, 99}, {100, 99}, {MOST, 99}};
      for (int[] two : theft) {
        due(two[1], x.law(1, two[0], 0, 0));
      }
    });
    test("USES: without a TEXT 3-f/3 and m, held too", () -> {
      WheatCounts x = new WheatCounts();
      int[] byFog = {3, 3, 3, 2, 2, 2, 1, 1, 1, 0, 0, 0, 0};
      for (int f = 0; f < byFog.length; f++) {
        due(byFog[f], x.law(0, 9, f, 9));
      }
      due(9, x.law(0, 0, -18, 0));
      due(8, x.law(0, 0, -17, 0));
      due(9, x.law(0, 0, -21, 0));
      due(9, x.law(0, 0, LEAST, 0));
      due(0, x.law(0, 0, MOST, 0));
      due(0, x.law(1, -1, 50, 50));
      due(0, x.law(1, LEAST, 50, 50));
      due(0, x.law(1, 0, 50, 50));
      due(99, x.law(1, 99, 50, 50));
      due(99, x.law(1, 100, 50, 50));
      due(99, x.law(1, MOST, 50, 50));
    });
    test("USES: NAMES are m, FOG, HOUR of one; m, GRAINS where AT, HOUR", () -> {
      WheatCounts x = made(3, LOOKER + 2, 0, THIEF + 3, 1);
      x.hours(1);
      sowAll(x, GRAINS, 7, 21, 5);
      x.lay(FOG, 3);
      read(x, 0, "m+f+h");
      read(x, 1, "m+g*2+h");
      due(2 + 3 + 1, x.ofPerson(0, 4));
      due(3 + 3 + 1, x.ofPerson(1, 4));
      due(3 + 2 * 21 + 1, x.ofPerson(1, 6));
      due(0, x.ofPerson(0, 6));
    });
  }

  // ---- promises

  private static void promises1To5() {
    test("promise 1: all as at first; six CELLS, no PEOPLE", () -> {
      WheatCounts x = new WheatCounts();
      int[] first = {6, 0, 0, 0, 0, 0, 0, 0, 0, 0, 0, 1};
      for (int what = 0; what < 12; what++) {
        due(first[what], x.count(what));
      }
      for (int k = 1; k <= 5; k++) {
        due(0, x.told(k));
      }
      for (int cell = 0; cell < 6; cell++) {
        for (int what = 0; what < 4; what++) {
          due(0, x.ofCell(cell, what));
        }
      }
      due(BEYOND, x.ofCell(6, 0));
      due(BEYOND, x.ofPerson(0, 0));
      for (int sheet = 0; sheet < 4; sheet++) {
        due(NONE, x.weeds(sheet));
      }
      due(NONE, x.trace(0));
      due(NONE, x.restore());
      due(0, x.check());
      due(-10, x.text(0));
      due(1, x.image());
    });
    test("promise 1: one object has nothing of another", () -> {
      crowded();
      rich();
      due(6, new WheatCounts().count(0));
      due(1, new WheatCounts().count(11));
      due(NONE, new WheatCounts().restore());
    });
    test("promise 2: n 3 to 10", () -> {
      WheatCounts x = new WheatCounts();
      due(6, x.field(3));
      due(3, x.field(4));
      due(4, x.field(9));
      due(9, x.field(10));
      due(10, x.field(10));
      due(10, x.field(6));
      refused(WheatCountsEdgesTest::empty, BEYOND, y -> y.field(2), y -> y.field(11), y -> y.field(0), y -> y.field(-1),
          y -> y.field(-3), y -> y.field(LEAST), y -> y.field(MOST));
    });
    test("promise 2: BEYOND is asked ahead of STATE", () -> {
      refused(WheatCountsEdgesTest::rich, BEYOND, y -> y.field(2), y -> y.field(11), y -> y.field(LEAST), y -> y.field(MOST));
    });
    test("promise 2: STATE: there are PEOPLE, one or eight", () -> {
      refused(WheatCountsEdgesTest::rich, STATE, y -> y.field(3), y -> y.field(5), y -> y.field(10));
      refused(WheatCountsEdgesTest::crowded, STATE, y -> y.field(3), y -> y.field(10));
      refused(() -> made(6, 0, 0), STATE, y -> y.field(6));
    });
    test("promise 2: without GRAINS, WEEDS, HEDGES, none LEANS; all else stays", () -> {
      for (int n = 3; n <= 10; n++) {
        WheatCounts x = made(10);
        for (int cell = 0; cell < 10; cell++) {
          x.sow(cell, GRAINS, 99999);
          x.sow(cell, WEEDS, 9);
        }
        x.lay(HEDGES, 511);
        x.lay(LEAN, 1023);
        x.lay(FOG, 9);
        x.seed(3);
        x.tell(4);
        x.hours(2);
        feed(x, "m");
        due(10, x.field(n));
        int[] then = {n, 0, 2, 0, 0, 9, 0, 0, 1, 1, 0, 3};
        for (int what = 0; what < 12; what++) {
          due(then[what], x.count(what));
        }
        due(n, x.field(10));
        for (int cell = 0; cell < 10; cell++) {
          due(0, x.ofCell(cell, GRAINS));
          due(0, x.ofCell(cell, WEEDS));
        }
      }
    });
    test("promise 3: GRAINS 0 to 99999", () -> {
      WheatCounts x = made(3);
      due(0, x.sow(2, GRAINS, 99999));
      due(99999, x.sow(2, GRAINS, 0));
      due(0, x.sow(2, GRAINS, 1));
      refused(WheatCountsEdgesTest::rich, BEYOND, y -> y.sow(0, GRAINS, 100000), y -> y.sow(0, GRAINS, -1),
          y -> y.sow(0, GRAINS, LEAST), y -> y.sow(0, GRAINS, MOST));
    });
    test("promise 3: WEEDS 0 to 99", () -> {
      WheatCounts x = made(3);
      due(0, x.sow(0, WEEDS, 99));
      due(99, x.sow(0, WEEDS, 0));
      due(0, x.sow(0, WEEDS, 1));
      refused(WheatCountsEdgesTest::rich, BEYOND, y -> y.sow(0, WEEDS, 100), y -> y.sow(0, WEEDS, -1),
          y -> y.sow(0, WEEDS, LEAST), y -> y.sow(0, WEEDS, MOST));
    });
    test("promise 3: no such CELL, no such what", () -> {
      WheatCounts x = made(10);
      due(0, x.sow(9, GRAINS, 5));
      due(5, x.ofCell(9, GRAINS));
      refused(WheatCountsEdgesTest::rich, BEYOND, y -> y.sow(5, GRAINS, 1), y -> y.sow(-1, GRAINS, 1), y -> y.sow(LEAST, 0, 1),
          y -> y.sow(MOST, WEEDS, 1), y -> y.sow(0, 2, 1), y -> y.sow(0, -1, 1), y -> y.sow(0, LEAST, 1), y -> y.sow(0, MOST, 1));
    });
    test("promise 4: who SEES it, who is AT it: none, one, all eight", () -> {
      WheatCounts x = dark(3);
      due(0, x.ofCell(1, 2));
      due(0, x.ofCell(1, 3));
      for (int p = 0; p < 8; p++) {
        x.person(LOOKER, 1);
        due((1 << p + 1) - 1, x.ofCell(1, 2));
        due((1 << p + 1) - 1, x.ofCell(1, 3));
        due(0, x.ofCell(0, 2));
        due(0, x.ofCell(2, 3));
      }
      read(x, 0, "1");
      due(255, x.ofCell(0, 2));
      due(0, x.ofCell(0, 3));
    });
    test("promise 4: THIEVES, who COUNT nothing, SEE too", () -> {
      due(1, made(3, THIEF, 0).ofCell(2, 2));
    });
    test("promise 4: BEYOND", () -> {
      refused(WheatCountsEdgesTest::rich, BEYOND, y -> y.ofCell(5, 0), y -> y.ofCell(-1, 0), y -> y.ofCell(LEAST, 3), y -> y.ofCell(MOST, 2),
          y -> y.ofCell(0, 4), y -> y.ofCell(0, -1), y -> y.ofCell(4, LEAST), y -> y.ofCell(4, MOST));
    });
    test("promise 5: HEDGES: a set of places between CELLS", () -> {
      for (int n = 3; n <= 10; n++) {
        int all = (1 << n - 1) - 1;
        WheatCounts x = made(n);
        due(0, x.lay(HEDGES, all));
        due(all, x.lay(HEDGES, 0));
        due(0, x.lay(HEDGES, 1));
        due(1, x.count(3));
        due(BEYOND, x.lay(HEDGES, all + 1));
        due(1, x.count(3));
      }
      refused(WheatCountsEdgesTest::rich, BEYOND, y -> y.lay(HEDGES, 16), y -> y.lay(HEDGES, -1), y -> y.lay(HEDGES, LEAST), y -> y.lay(HEDGES, MOST));
    });
    test("promise 5: LEAN: a set of CELLS", () -> {
      for (int n = 3; n <= 10; n++) {
        int all = (1 << n) - 1;
        WheatCounts x = made(n);
        due(0, x.lay(LEAN, all));
        due(all, x.lay(LEAN, 0));
        due(0, x.lay(LEAN, 1));
        due(1, x.count(4));
        due(BEYOND, x.lay(LEAN, all + 1));
        due(1, x.count(4));
      }
      refused(WheatCountsEdgesTest::rich, BEYOND, y -> y.lay(LEAN, 32), y -> y.lay(LEAN, -1), y -> y.lay(LEAN, LEAST), y -> y.lay(LEAN, MOST));
    });
    test("promise 5: FOG 0 to 9", () -> {
      WheatCounts x = made(3);
      due(0, x.lay(FOG, 9));
      due(9, x.lay(FOG, 0));
      due(0, x.lay(FOG, 1));
      refused(WheatCountsEdgesTest::rich, BEYOND, y -> y.lay(FOG, 10), y -> y.lay(FOG, -1), y -> y.lay(FOG, LEAST), y -> y.lay(FOG, MOST));
    });
    test("promise 5: no such what", () -> {
      refused(WheatCountsEdgesTest::rich, BEYOND, y -> y.lay(3, 0), y -> y.lay(-1, 0), y -> y.lay(LEAST, 0), y -> y.lay(MOST, 1));
    });
  }

  private static WheatCounts empty() {
    WheatCounts x = made(5);
    sowAll(x, GRAINS, 1, 2, 3, 4, 5);
    sowAll(x, WEEDS, 5, 4, 3, 2, 1);
    x.lay(HEDGES, 5);
    x.lay(LEAN, 6);
    x.lay(FOG, 7);
    return x;
  }

  private static void promises6To10() {
    test("promise 6: KINDS 0 to 6, m 0 to 9", () -> {
      for (int km = 0; km < 70; km++) {
        WheatCounts x = made(3);
        due(0, x.person(km, 2));
        due(km / 10, x.ofPerson(0, 0));
        due(km % 10, x.ofPerson(0, 1));
        due(2, x.ofPerson(0, 2));
        due(0, x.ofPerson(0, 3));
      }
      refused(WheatCountsEdgesTest::rich, BEYOND, y -> y.person(70, 0), y -> y.person(-1, 0), y -> y.person(-10, 0), y -> y.person(LEAST, 0), y -> y.person(MOST, 0));
    });
    test("promise 6: AT a CELL", () -> {
      WheatCounts x = made(10);
      due(0, x.person(0, 0));
      due(1, x.person(0, 9));
      due(9, x.ofPerson(1, 2));
      refused(WheatCountsEdgesTest::rich, BEYOND, y -> y.person(0, 5), y -> y.person(0, -1), y -> y.person(0, LEAST), y -> y.person(0, MOST));
    });
    test("promise 6: at most 8; then FULL", () -> {
      WheatCounts x = made(3);
      for (int p = 0; p < 8; p++) {
        due(p, x.person(LOOKER, 0));
        due(p + 1, x.count(1));
      }
      due(FULL, x.person(LOOKER, 0));
      due(8, x.count(1));
      refused(WheatCountsEdgesTest::crowded, FULL, y -> y.person(0, 0), y -> y.person(69, 9));
    });
    test("promise 6: BEYOND is asked ahead of FULL", () -> {
      refused(WheatCountsEdgesTest::crowded, BEYOND, y -> y.person(70, 0), y -> y.person(-1, 0), y -> y.person(0, 10), y -> y.person(0, -1));
    });
    test("promise 6: WAY is 0 at first, behind an IMAGE with others too", () -> {
      WheatCounts x = made(3);
      x.image();
      x.person(THIEF + 4, 1);
      x.lead(0, WAY, 1);
      x.restore();
      due(0, x.count(1));
      due(0, x.person(LOOKER, 0));
      due(0, x.ofPerson(0, 3));
      due(0, x.ofPerson(0, 1));
    });
    test("promise 7: what 6 as if there were enough", () -> {
      WheatCounts x = made(3, THIEF + 9, 0, STEWARD + 9, 0);
      due(9, x.ofPerson(0, 6));
      due(4, x.ofPerson(1, 6));
      x.sow(0, GRAINS, 1);
      due(9, x.ofPerson(0, 6));
    });
    test("promise 7: BEYOND", () -> {
      due(7, crowded().ofPerson(7, 1));
      refused(WheatCountsEdgesTest::rich, BEYOND, y -> y.ofPerson(4, 0), y -> y.ofPerson(-1, 0), y -> y.ofPerson(LEAST, 0), y -> y.ofPerson(MOST, 0),
          y -> y.ofPerson(0, 8), y -> y.ofPerson(0, -1), y -> y.ofPerson(3, LEAST), y -> y.ofPerson(3, MOST));
      refused(WheatCountsEdgesTest::empty, BEYOND, y -> y.ofPerson(0, 0));
      refused(WheatCountsEdgesTest::crowded, BEYOND, y -> y.ofPerson(8, 0));
    });
    test("promise 8: AT is one of the CELLS", () -> {
      WheatCounts x = made(10, 0, 4);
      due(4, x.lead(0, AT, 9));
      due(9, x.lead(0, AT, 0));
      due(0, x.lead(0, AT, 0));
      refused(WheatCountsEdgesTest::rich, BEYOND, y -> y.lead(0, AT, 5), y -> y.lead(0, AT, -1), y -> y.lead(0, AT, LEAST), y -> y.lead(0, AT, MOST));
    });
    test("promise 8: WAY is -1, 0, 1", () -> {
      WheatCounts x = made(3, 0, 1);
      due(0, x.lead(0, WAY, -1));
      due(-1, x.lead(0, WAY, 1));
      due(1, x.lead(0, WAY, 0));
      due(0, x.ofPerson(0, 3));
      refused(WheatCountsEdgesTest::rich, BEYOND, y -> y.lead(1, WAY, 2), y -> y.lead(1, WAY, -2), y -> y.lead(1, WAY, LEAST), y -> y.lead(1, WAY, MOST));
    });
    test("promise 8: no such one, no such what", () -> {
      refused(WheatCountsEdgesTest::rich, BEYOND, y -> y.lead(4, AT, 0), y -> y.lead(-1, WAY, 0), y -> y.lead(LEAST, 0, 0), y -> y.lead(MOST, 0, 0),
          y -> y.lead(0, 2, 0), y -> y.lead(0, -1, 0), y -> y.lead(0, LEAST, 0), y -> y.lead(0, MOST, 0));
      refused(WheatCountsEdgesTest::empty, BEYOND, y -> y.lead(0, AT, 0), y -> y.lead(0, WAY, 0));
      refused(WheatCountsEdgesTest::crowded, BEYOND, y -> y.lead(8, AT, 0));
    });
    test("promise 9: one of each KIND, with each m; AT and WAY stay", () -> {
      WheatCounts x = made(3, 0, 2);
      x.lead(0, WAY, -1);
      int was = 0;
      for (int km = 69; km >= 0; km--) {
        due(was, x.become(0, km));
        was = km / 10;
        due(was, x.ofPerson(0, 0));
        due(km % 10, x.ofPerson(0, 1));
      }
      due(2, x.ofPerson(0, 2));
      due(-1, x.ofPerson(0, 3));
    });
    test("promise 9: BEYOND", () -> {
      refused(WheatCountsEdgesTest::rich, BEYOND, y -> y.become(0, 70), y -> y.become(0, -1), y -> y.become(0, LEAST), y -> y.become(0, MOST),
          y -> y.become(4, 0), y -> y.become(-1, 0), y -> y.become(LEAST, 0), y -> y.become(MOST, 0));
      refused(WheatCountsEdgesTest::empty, BEYOND, y -> y.become(0, 0));
      refused(WheatCountsEdgesTest::crowded, BEYOND, y -> y.become(8, 0));
    });
    test("promise 10: as one of each KIND, if one is of it or of one under it", () -> {
      int[] is = {1, 1 + 2, 1 + 4, 1 + 8, 1 + 2 + 16, 1 + 4 + 32, 1 + 8 + 64};
      for (int kind = 0; kind < 7; kind++) {
        WheatCounts x = made(3, 10 * kind + 9 - kind, 0);
        for (int as = 0; as < 7; as++) {
          due((is[kind] >> as & 1) == 1 ? 9 - kind : KIND, x.as(0, as));
        }
      }
    });
    test("promise 10: KIND changes nothing", () -> {
      refused(WheatCountsEdgesTest::rich, KIND, y -> y.as(0, 1), y -> y.as(0, 6), y -> y.as(1, 4), y -> y.as(2, 6), y -> y.as(3, 1));
    });
    test("promise 10: BEYOND is asked ahead of KIND", () -> {
      refused(WheatCountsEdgesTest::rich, BEYOND, y -> y.as(0, 7), y -> y.as(0, -1), y -> y.as(0, LEAST), y -> y.as(0, MOST),
          y -> y.as(4, 0), y -> y.as(-1, 6), y -> y.as(LEAST, 0), y -> y.as(MOST, 0));
      refused(WheatCountsEdgesTest::empty, BEYOND, y -> y.as(0, 0));
      refused(WheatCountsEdgesTest::crowded, BEYOND, y -> y.as(8, 0));
    });
  }

  private static WheatCounts withTape(int bytes) {
    WheatCounts x = new WheatCounts();
    feed(x, "1+".repeat(25).substring(0, bytes));
    return x;
  }

  private static void promises11To13() {
    test("promise 11: the n lowest bytes, 1 .. 8, the lowest first", () -> {
      long word = '1' | (long) '+' << 8 | (long) '2' << 16 | (long) '*' << 24 | (long) '3' << 32 | (long) '-' << 40 | (long) '4' << 48 | (long) 'x' << 56;
      int[] want = {1, -12, 3, -14, 7, -16, 3, -17};
      for (int n = 1; n <= 8; n++) {
        WheatCounts x = new WheatCounts();
        due(n, x.feed(word, n));
        int read = x.text(1);
        due(want[n - 1], read == 1 ? x.law(1, 0, 0, 0) : read);
      }
    });
    test("promise 11: the highest byte is a byte, below 0 too", () -> {
      WheatCounts x = new WheatCounts();
      x.feed(-1L, 8);
      due(-10, x.text(0));
      x.feed(0x372b302b302b3031L, 8);
      due(1, x.text(1));
      due(17, x.law(1, 0, 0, 0));
      x.feed(0xb7000000000000b7L, 1);
      due(-10, x.text(1));
    });
    test("promise 11: n 1 to 8", () -> {
      refused(WheatCountsEdgesTest::rich, BEYOND, y -> y.feed('m', 0), y -> y.feed('m', 9), y -> y.feed('m', -1), y -> y.feed('m', LEAST), y -> y.feed('m', MOST));
    });
    test("promise 11: THE TAPE has at most 50 bytes; then FULL", () -> {
      for (int n = 1; n <= 8; n++) {
        due(50, withTape(50 - n).feed(0, n));
        int bytes = 51 - n;
        int more = n;
        refused(() -> withTape(bytes), FULL, y -> y.feed('1', more));
      }
      refused(() -> withTape(50), FULL, y -> y.feed('1', 1), y -> y.feed('1', 8));
      refused(() -> withTape(43), FULL, y -> y.feed('1', 8));
    });
    test("promise 11: BEYOND is asked ahead of FULL", () -> {
      refused(WheatCountsEdgesTest::crowded, BEYOND, y -> y.feed('m', 0), y -> y.feed('m', 9), y -> y.feed('m', MOST));
    });
    test("promise 12: uses 0, 1; BEYOND: THE TAPE stays", () -> {
      refused(WheatCountsEdgesTest::rich, BEYOND, y -> y.text(2), y -> y.text(-1), y -> y.text(LEAST), y -> y.text(MOST));
      WheatCounts x = withTape(3);
      due(BEYOND, x.text(2));
      due(3, x.count(8));
      due(1, x.text(1));
      due(2, x.law(1, 0, 0, 0));
    });
    test("promise 12: THE TAPE is empty then, and the TEXT in place of one ahead", () -> {
      WheatCounts x = withTape(49);
      due(1, x.text(1));
      due(0, x.count(8));
      due(25, x.law(1, 0, 0, 0));
      due(-10, x.text(1));
      due(1, read(x, 1, "7"));
      due(7, x.law(1, 0, 0, 0));
      due(3, x.law(0, 0, 0, 0));
      due(1, read(x, 0, "8"));
      due(7, x.law(1, 0, 0, 0));
      due(8, x.law(0, 0, 0, 0));
    });
    test("promise 12: a FAULT is no ERROR; the one ahead stays; THE TAPE is empty, too", () -> {
      WheatCounts x = new WheatCounts();
      read(x, 0, "4");
      read(x, 1, "5");
      due(-12, read(x, 0, "6++"));
      due(-14, read(x, 1, "6+7-"));
      due(-60, read(x, 1, "1+".repeat(25)));
      due(0, x.count(8));
      due(4, x.law(0, 0, 0, 0));
      due(5, x.law(1, 0, 0, 0));
      for (int k = 1; k <= 5; k++) {
        due(0, x.told(k));
      }
    });
    test("promise 12: -10 less the FAULT, from 0 to 50", () -> {
      for (int place = 0; place < 50; place++) {
        WheatCounts x = new WheatCounts();
        String ahead = "1+".repeat(25).substring(0, place);
        due(-10 - place, read(x, 0, ahead + "x"));
      }
      due(-60, read(new WheatCounts(), 0, "1+".repeat(25)));
    });
    test("promise 13: uses 0, 1", () -> {
      refused(WheatCountsEdgesTest::rich, BEYOND, y -> y.law(2, 0, 0, 0), y -> y.law(-1, 0, 0, 0), y -> y.law(LEAST, 0, 0, 0), y -> y.law(MOST, 0, 0, 0));
    });
    test("promise 13: NAMES in order as a, b, c; any numbers", () -> {
      WheatCounts x = new WheatCounts();
      read(x, 0, "(m=0-1)+(f=0-2)*2+(h=0-3)*4");
      due(7, x.law(0, -1, -2, -3));
      due(1, x.law(0, -1, -3, -2));
      due(2, x.law(0, -3, -2, -1));
      due(4, x.law(0, -2, -1, -3));
      read(x, 1, "m/1000*g/1000-h");
      due(9, x.law(1, 3000, 3000, 0));
      due(0, x.law(1, 3000, 3000, MOST));
      due(99, x.law(1, 3000, 3000, -1000));
    });
  }

  private static void promises14To17() {
    test("promise 14: n 1 to 50", () -> {
      WheatCounts x = dark(3, LOOKER, 0);
      due(1, x.hours(1));
      due(51, x.hours(50));
      due(51, x.count(2));
      refused(WheatCountsEdgesTest::rich, BEYOND, y -> y.hours(0), y -> y.hours(51), y -> y.hours(-1), y -> y.hours(LEAST), y -> y.hours(MOST));
    });
    test("promise 14: STATE: HOUR would be above 9999", () -> {
      WheatCounts x = late(9949);
      x.hours(50);
      due(9999, x.count(2));
      refused(() -> late(9950), STATE, y -> y.hours(50));
      refused(() -> late(9999), STATE, y -> y.hours(1), y -> y.hours(50));
      WheatCounts last = late(9998);
      due(STATE, last.hours(2));
      due(9998, last.count(2));
      last.hours(1);
      due(9999, last.count(2));
    });
    test("promise 14: BEYOND is asked ahead of STATE", () -> {
      refused(() -> late(9999), BEYOND, y -> y.hours(0), y -> y.hours(51), y -> y.hours(MOST));
    });
    test("promise 15: n 1 to 40", () -> {
      WheatCounts x = made(3);
      x.sow(0, GRAINS, 7);
      due(7, x.loose(1));
      due(7, x.loose(40));
      due(41, x.count(2));
      refused(WheatCountsEdgesTest::rich, BEYOND, y -> y.loose(0), y -> y.loose(41), y -> y.loose(-1), y -> y.loose(LEAST), y -> y.loose(MOST));
    });
    test("promise 15: STATE: HOUR would be above 9999", () -> {
      WheatCounts x = late(9959);
      x.loose(40);
      due(9999, x.count(2));
      refused(() -> late(9960), STATE, y -> y.loose(40));
      refused(() -> late(9999), STATE, y -> y.loose(1), y -> y.loose(40));
    });
    test("promise 15: BEYOND is asked ahead of STATE", () -> {
      refused(() -> late(9999), BEYOND, y -> y.loose(0), y -> y.loose(41), y -> y.loose(50), y -> y.loose(LEAST));
    });
    test("HOURS by draws: without PEOPLE no draws; with PEOPLE two an HOUR", () -> {
      WheatCounts x = made(3);
      x.loose(40);
      due(1, x.count(11));
      x.person(0, 1);
      int z = 1;
      for (int i = 0; i < 80; i++) {
        z = z * 1103515245 + 12345;
      }
      x.loose(40);
      due(z, x.count(11));
    });
    test("HOURS by draws: z is an int that goes round, and z >>> 8 is never below 0", () -> {
      int[] seeds = {0, -1, 1, LEAST, MOST, 12345, -759193129, 1 << 31 >> 7, 99};
      for (int seed : seeds) {
        for (int people = 1; people <= 8; people++) {
          WheatCounts x = made(3);
          for (int p = 0; p < people; p++) {
            x.person(LOOKER, 1);
          }
          x.seed(seed);
          x.loose(1);
          long first = (seed * 1103515245L + 12345L) & 0xffffffffL;
          long second = (first * 1103515245L + 12345L) & 0xffffffffL;
          int who = (int) (first / 256 % people);
          int way = (int) (second / 256 % 3) - 1;
          due((int) second, x.count(11));
          for (int p = 0; p < people; p++) {
            due(p == who ? way : 0, x.ofPerson(p, 3));
            due(p == who ? 1 + way : 1, x.ofPerson(p, 2));
          }
        }
      }
    });
    test("HOURS by draws: the draws come ahead of the HOUR", () -> {
      WheatCounts x = made(3, 0, 0);
      x.lead(0, WAY, 1);
      // 0 and 0: the only one's WAY becomes -1 and, since there is no CELL, 1 behind the HOUR
      int seed = 0;
      while (((seed * 1103515245 + 12345) * 1103515245 + 12345 >>> 8) % 3 != 0) {
        seed++;
      }
      x.seed(seed);
      x.loose(1);
      due(0, x.ofPerson(0, 2));
      due(1, x.ofPerson(0, 3));
    });
    test("promise 16: no GRAINS, the most GRAINS", () -> {
      WheatCounts x = made(10);
      x.lay(LEAN, 1023);
      due(0, x.evening());
      x.lay(LEAN, 512);
      for (int cell = 0; cell < 10; cell++) {
        x.sow(cell, GRAINS, 99999);
      }
      due(999990, x.evening());
      due(0, x.count(2));
    });
    test("promise 17: v 2 to 9, cut", () -> {
      int[] by = {49999, 33333, 24999, 19999, 16666, 14285, 12499, 11111};
      for (int v = 2; v <= 9; v++) {
        WheatCounts x = made(3);
        sowAll(x, GRAINS, 99999, v - 1, v);
        due(by[v - 2] + 1, x.hail(v));
        dueGrains(x, by[v - 2], 0, 1);
      }
      due(0, made(3).hail(9));
      WheatCounts wide = made(10);
      for (int cell = 0; cell < 10; cell++) {
        wide.sow(cell, GRAINS, 99999);
      }
      due(499990, wide.hail(2));
      refused(WheatCountsEdgesTest::rich, BEYOND, y -> y.hail(1), y -> y.hail(10), y -> y.hail(0), y -> y.hail(-1), y -> y.hail(-2), y -> y.hail(LEAST), y -> y.hail(MOST));
    });
  }

  private static void promises18And19() {
    test("promise 18: n 0 to 50", () -> {
      WheatCounts x = dark(3, LOOKER, 1);
      due(0, x.then(0, 1));
      due(1, x.then(1, 1));
      due(50, x.then(50, 1));
      refused(WheatCountsEdgesTest::rich, BEYOND, y -> y.then(51, 0), y -> y.then(-1, 0), y -> y.then(LEAST, 0), y -> y.then(MOST, 0));
    });
    test("promise 18: what -1 to the last CELL", () -> {
      WheatCounts x = dark(10, THIEF + 7, 9);
      x.sow(9, GRAINS, 20);
      due(0, x.then(0, -1));
      due(7, x.then(1, -1));
      due(20, x.then(3, -1));
      due(20, x.then(0, 9));
      due(0, x.then(3, 9));
      due(0, x.then(3, 0));
      refused(WheatCountsEdgesTest::rich, BEYOND, y -> y.then(0, -2), y -> y.then(0, 5), y -> y.then(0, LEAST), y -> y.then(0, MOST));
    });
    test("all this is only thought: nothing changes", () -> {
      Call[] calls = {y -> y.then(50, 0), y -> y.then(50, -1), y -> y.full(400), y -> y.leads(0, 60, 3, -1), y -> y.sums(60, 0),
          y -> y.watch(), y -> y.hide(0), y -> y.gains(0, 50), y -> y.odds(0, 0), y -> y.ofPerson(3, 7), y -> y.ofCell(2, 2), y -> y.law(0, 1, 2, 3)};
      for (Call call : calls) {
        WheatCounts asked = rich();
        int got = call.on(asked);
        if (got < LOW && got != NONE) {
          fail("answered " + got);
        }
        if (!allOf(asked).equals(allOf(rich()))) {
          fail("something changed");
        }
      }
    });
    test("only thought: HOUR goes beyond 9999", () -> {
      WheatCounts x = made(3, LOOKER, 1, THIEF, 2);
      read(x, 0, "h>9999");
      read(x, 1, "(h>9999)*(h-9998)");
      until(x, 9999);
      sowAll(x, GRAINS, 0, 0, 10);
      due(0, x.then(1, 0));
      due(1, x.then(2, 0));
      due(49, x.then(50, 0));
      due(0, x.then(1, -1));
      due(2, x.then(2, -1));
      due(9999, x.count(2));
      int now = x.count(7);
      due(0, x.full(now));
      due(1, x.full(now + 1));
      due(2, x.full(now + 2));
      due(1, x.leads(0, 3, 3, -1));
      due(0, x.leads(0, 2, 3, -1));
      due(1, x.gains(0, 1));
      due(1 + 3, x.gains(0, 2));
      due(-2, x.gains(1, 2));
      x.tell(11);
      x.tell(12);
      due(0, x.check());
      due(STATE, x.hours(1));
    });
    test("promise 19: v 0 to 999999", () -> {
      WheatCounts x = made(10);
      due(0, x.full(0));
      due(NONE, x.full(1));
      due(NONE, x.full(999999));
      for (int cell = 0; cell < 10; cell++) {
        x.sow(cell, GRAINS, 99999);
      }
      due(0, x.full(999990));
      due(NONE, x.full(999991));
      refused(WheatCountsEdgesTest::rich, BEYOND, y -> y.full(1000000), y -> y.full(-1), y -> y.full(LEAST), y -> y.full(MOST));
    });
    test("promise 19: behind 0 to 50 HOURS, v or more first", () -> {
      WheatCounts x = dark(3, LOVER, 0);
      x.sow(0, GRAINS, 3);
      due(0, x.full(3));
      due(1, x.full(4));
      due(1, x.full(5));
      due(2, x.full(6));
      due(49, x.full(3 + 98));
      due(50, x.full(3 + 99));
      due(50, x.full(3 + 100));
      due(NONE, x.full(3 + 101));
      WheatCounts down = made(3);
      down.sow(0, GRAINS, 9);
      down.sow(0, WEEDS, 5);
      due(0, down.full(9));
      due(NONE, down.full(10));
      WheatCounts peak = dark(3, LOVER, 0, THIEF + 9, 2);
      sowAll(peak, GRAINS, 0, 0, 10);
      peak.lead(1, WAY, -1);
      // 10, 3, 5, 5, 6: what was there at first comes again later
      due(0, peak.full(10));
      due(0, peak.full(5));
    });
    test("promise 19: NONE: not by 50", () -> {
      refused(WheatCountsEdgesTest::rich, NONE, y -> y.full(999999));
    });
  }

  /** The row that leads() tells, if it tells as many as are due. */
  private static void dueRow(WheatCounts x, int cell, int v, int n, int... row) {
    due(row.length / 2, x.leads(cell, v, n, -1));
    for (int what = 0; what < 4; what++) {
      due(what < row.length ? row[what] : -1, x.leads(cell, v, n, what));
    }
  }

  private static WheatCounts sent(WheatCounts x, int... ways) {
    for (int p = 0; p < ways.length; p++) {
      x.lead(p, WAY, ways[p]);
    }
    return x;
  }

  private static void promise20() {
    test("promise 20: v 0 to 99999", () -> {
      WheatCounts x = dark(3, LOOKER, 0);
      dueRow(x, 2, 0, 0);
      x.sow(2, GRAINS, 99999);
      dueRow(x, 2, 99999, 0);
      x.sow(2, GRAINS, 99998);
      dueRow(x, 2, 99999, 1, 0, 2);
      refused(WheatCountsEdgesTest::rich, BEYOND, y -> y.leads(0, 100000, 0, -1), y -> y.leads(0, -1, 0, -1), y -> y.leads(0, LEAST, 0, 0), y -> y.leads(0, MOST, 0, 0));
    });
    test("promise 20: for n 0 to 3 HOURS", () -> {
      WheatCounts x = dark(3, LOOKER, 0);
      for (int n = 0; n <= 3; n++) {
        dueRow(x, 0, n, n);
        due(NONE, x.leads(0, n + 1, n, -1));
      }
      refused(WheatCountsEdgesTest::rich, BEYOND, y -> y.leads(0, 0, 4, -1), y -> y.leads(0, 0, -1, -1), y -> y.leads(0, 0, LEAST, 0), y -> y.leads(0, 0, MOST, 0));
    });
    test("promise 20: what -1 to 3; -1: there is none such", () -> {
      WheatCounts x = dark(10, LOOKER, 0, LOOKER, 1);
      dueRow(x, 0, 1, 1);
      dueRow(x, 9, 1, 1, 0, 9);
      dueRow(x, 9, 2, 1, 0, 9, 1, 9);
      refused(WheatCountsEdgesTest::rich, BEYOND, y -> y.leads(0, 0, 0, 4), y -> y.leads(0, 0, 0, -2), y -> y.leads(0, 0, 0, LEAST), y -> y.leads(0, 0, 0, MOST));
    });
    test("promise 20: no such CELL", () -> {
      dueRow(made(10, 0, 0), 9, 0, 0);
      refused(WheatCountsEdgesTest::rich, BEYOND, y -> y.leads(5, 0, 0, -1), y -> y.leads(-1, 0, 0, -1), y -> y.leads(LEAST, 0, 0, 0), y -> y.leads(MOST, 0, 0, 0));
    });
    test("promise 20: BEYOND is asked ahead of NONE", () -> {
      refused(WheatCountsEdgesTest::rich, BEYOND, y -> y.leads(0, 99999, 0, 4), y -> y.leads(0, 99999, 4, 0), y -> y.leads(5, 99999, 0, 0));
    });
    test("promise 20: NONE: not by 2, though by 3", () -> {
      WheatCounts x = dark(3, LOOKER, 0, LOOKER, 0, LOOKER, 0);
      dueRow(x, 2, 2, 1, 0, 2, 1, 2);
      due(NONE, x.leads(2, 3, 1, -1));
      due(NONE, x.leads(2, 3, 1, 0));
      due(NONE, x.leads(2, 3, 1, 3));
      refused(WheatCountsEdgesTest::rich, NONE, y -> y.leads(0, 99999, 0, -1), y -> y.leads(0, 99999, 3, 0), y -> y.leads(4, 99999, 3, 3));
      due(NONE, made(3).leads(0, 1, 3, -1));
      due(NONE, dark(3, LOOKER, 0).leads(2, 3, 2, -1));
    });
    test("LEAD: the fewest, ahead of a row that is earlier", () -> {
      WheatCounts x = dark(4, LOOKER, 0, LOOKER, 0, LOVER, 0);
      dueRow(x, 3, 2, 1, 2, 3);
      dueRow(x, 3, 3, 1, 0, 3, 2, 3);
      dueRow(x, 3, 1, 1, 0, 3);
      dueRow(x, 3, 0, 1);
      dueRow(x, 3, 3, 1, 0, 3, 2, 3);
      dueRow(x, 3, 0, 1);
      due(NONE, x.leads(3, 4, 1, 0));
    });
    test("LEAD: of several the first: the one, then its CELL", () -> {
      WheatCounts x = made(10, LOOKER, 0, LOOKER, 0);
      read(x, 0, "2");
      dueRow(x, 6, 1, 1, 0, 4);
      dueRow(x, 6, 2, 1, 0, 4, 1, 4);
      x.lead(0, AT, 5);
      dueRow(x, 6, 2, 1, 1, 4);
      WheatCounts thieves = dark(3, THIEF + 3, 0, THIEF + 9, 1, THIEF + 9, 1);
      thieves.sow(1, GRAINS, 20);
      dueRow(thieves, 1, 3, 1, 1, 0);
      dueRow(thieves, 1, 20, 1, 1, 0, 2, 0);
    });
    test("LEAD: of several the first: the CELL of a ahead of b", () -> {
      dueRow(sent(dark(3, 32, 0, 11, 2, 10, 1), -1, 1, 0), 0, 2, 2, 0, 1, 2, 0);
      dueRow(sent(dark(3, 1, 0, 51, 1, 12, 1), 1, 1, -1), 2, 4, 2, 0, 1, 2, 2);
      dueRow(sent(dark(4, 10, 1, 62, 0, 41, 0), 1, 0, 0), 3, 5, 2, 0, 2, 2, 2);
      dueRow(sent(dark(4, 42, 1, 11, 1, 31, 3), -1, 1, 0), 3, 4, 3, 0, 2, 2, 0);
    });
    test("LEAD: an own CELL is none of the other ones; the last CELL is the last", () -> {
      WheatCounts x = dark(10, SCARECROW, 5, LOOKER, 1);
      dueRow(x, 0, 1, 1, 1, 0);
      dueRow(x, 9, 1, 1, 1, 9);
      WheatCounts three = dark(10, LOOKER, 5, SCARECROW, 5, LOVER, 5);
      dueRow(three, 0, 3, 1, 0, 0, 2, 0);
      dueRow(three, 9, 3, 1, 0, 9, 2, 9);
      WheatCounts other = dark(10, SCARECROW, 5, LOOKER, 5, LOVER, 5);
      dueRow(other, 0, 3, 1, 1, 0, 2, 0);
      dueRow(other, 5, 3, 1);
    });
    test("LEAD: who goes on turns at either end", () -> {
      WheatCounts x = sent(dark(3, LOOKER, 2, LOOKER, 0), 1, -1);
      int[] behind = {0, 1, 2, 2};
      for (int n = 0; n <= 3; n++) {
        dueRow(x, 2, behind[n], n);
        dueRow(x, 0, behind[n], n);
      }
      // the other one joins: at 1 it comes to 2 in the second HOUR, and turns there
      x.lead(1, WAY, 1);
      dueRow(x, 2, 4, 3, 1, 1);
      dueRow(x, 2, 3, 2, 1, 1);
      dueRow(x, 2, 4, 2, 1, 2);
      due(NONE, x.leads(2, 5, 3, -1));
    });
    test("LEAD: none, one, eight PEOPLE, in three and in ten CELLS", () -> {
      due(NONE, made(10).leads(9, 1, 3, -1));
      due(NONE, made(3).leads(2, 1, 3, -1));
      dueRow(made(3), 2, 0, 3);
      for (int n = 3; n <= 10; n += 7) {
        WheatCounts x = dark(n);
        for (int p = 0; p < 8; p++) {
          x.person(LOOKER, n - 2);
          x.lead(p, WAY, 0);
        }
        dueRow(x, n - 2, 24, 3);
        due(NONE, x.leads(n - 2, 25, 3, -1));
        dueRow(x, n - 1, 3, 3, 0, n - 1);
        dueRow(x, n - 1, 6, 3, 0, n - 1, 1, n - 1);
        due(NONE, x.leads(n - 1, 7, 3, -1));
        x.become(6, LOVER);
        x.become(7, LOVER + 9);
        dueRow(x, 0, 12, 3, 6, 0, 7, 0);
        due(NONE, x.leads(0, 13, 3, -1));
      }
    });
    test("LEAD: v or more, not v alone", () -> {
      WheatCounts x = dark(3, BRIDE, 0);
      read(x, 0, "0");
      dueRow(x, 2, 3, 3, 0, 1);
      dueRow(x, 2, 5, 3, 0, 1);
      dueRow(x, 2, 6, 3, 0, 1);
      due(NONE, x.leads(2, 7, 3, -1));
    });
  }

  private static void promises21And22() {
    test("promise 21: v 0 to 999999", () -> {
      WheatCounts x = made(10);
      due(1024, x.sums(0, 0));
      due(0, x.sums(0, 1));
      for (int cell = 0; cell < 10; cell++) {
        x.sow(cell, GRAINS, 99999);
      }
      due(1, x.sums(0, 0));
      due(1, x.sums(999990, 0));
      due(1023, x.sums(999990, 1));
      due(10, x.sums(99999, 0));
      due(1, x.sums(99999, 1));
      due(252, x.sums(5 * 99999, 0));
      due(31, x.sums(5 * 99999, 1));
      due(0, x.sums(999999, 0));
      refused(WheatCountsEdgesTest::rich, BEYOND, y -> y.sums(1000000, 0), y -> y.sums(-1, 0), y -> y.sums(LEAST, 1), y -> y.sums(MOST, 1));
    });
    test("promise 21: what 0, 1", () -> {
      refused(WheatCountsEdgesTest::rich, BEYOND, y -> y.sums(0, 2), y -> y.sums(0, -1), y -> y.sums(0, LEAST), y -> y.sums(999999, MOST));
    });
    test("promise 21: NONE only for what 1", () -> {
      refused(WheatCountsEdgesTest::rich, NONE, y -> y.sums(999999, 1));
      WheatCounts x = made(3);
      due(0, x.sums(1, 0));
      due(0, x.told(2));
      due(NONE, x.sums(1, 1));
      due(1, x.told(2));
    });
    test("SUMS: the least set, not the one with the fewest CELLS", () -> {
      WheatCounts x = made(4);
      sowAll(x, GRAINS, 1, 2, 3, 6);
      due(2, x.sums(6, 0));
      due(7, x.sums(6, 1));
      due(2, x.sums(3, 0));
      due(3, x.sums(3, 1));
      due(8 + 4 + 2 + 1, x.sums(12, 1));
      sowAll(x, GRAINS, 5, 0, 0, 0);
      due(8, x.sums(5, 0));
      due(1, x.sums(5, 1));
    });
    test("promise 22: no such SHEET, no such what", () -> {
      refused(WheatCountsEdgesTest::looking, BEYOND, y -> y.looked(4, 0), y -> y.looked(-1, 0), y -> y.looked(LEAST, 1), y -> y.looked(MOST, 1),
          y -> y.looked(0, 2), y -> y.looked(0, -1), y -> y.looked(0, LEAST), y -> y.looked(0, MOST));
    });
    test("promise 22: BEYOND is asked ahead of NONE", () -> {
      refused(WheatCountsEdgesTest::looking, BEYOND, y -> y.looked(3, 2), y -> y.looked(1, -1), y -> y.looked(2, 2), y -> y.looked(4, 7));
    });
    test("promise 22: NONE: it is missing, has not as many numbers as there are CELLS", () -> {
      // 0 has as many as there are CELLS, 1 one fewer, 2 one more; 3 is missing
      due(2, looking().looked(0, 0));
      refused(WheatCountsEdgesTest::looking, NONE, y -> y.looked(1, 0), y -> y.looked(1, 1), y -> y.looked(2, 0), y -> y.looked(2, 1),
          y -> y.looked(3, 0), y -> y.looked(3, 1));
      WheatCounts x = made(3);
      x.sheet(0, 8, 0);
      due(NONE, x.looked(0, 0));
    });
    test("promise 22: NONE: what 1: there is none", () -> {
      WheatCounts x = looking();
      x.put(0, 2, 99);
      due(0, x.looked(0, 0));
      due(0, x.told(2));
      refused(() -> {
        WheatCounts y = looking();
        y.put(0, 2, 99);
        return y;
      }, NONE, y -> y.looked(0, 1));
    });
    test("LOOKED: SHEETS of 8, 16, 32 bits, with numbers below 0", () -> {
      for (int bits = 8; bits <= 32; bits *= 2) {
        WheatCounts x = dark(3, LOOKER, 0);
        fill(x, 0, bits, 1, 0, 0);
        due(1, x.looked(0, 0));
        due(1, x.looked(0, 1));
        fill(x, 0, bits, 0, 0, -1);
        due(0, x.looked(0, 0));
        due(NONE, x.looked(0, 1));
        fill(x, 0, bits, 0, 0, 0);
        due(0, x.looked(0, 1));
      }
    });
    test("LOOKED: the least set, not the one with the fewest PEOPLE", () -> {
      WheatCounts x = dark(3, SCARECROW, 0, SCARECROW, 0, LOOKER, 0);
      fill(x, 0, 8, 1, 0, 0);
      // both SCARECROWS; the LOOKER with none or one of them
      due(4, x.looked(0, 0));
      due(3, x.looked(0, 1));
    });
    test("LOOKED: without PEOPLE the one empty set; with eight 256 of them", () -> {
      WheatCounts x = made(3);
      x.sheet(0, 8, 3);
      due(1, x.looked(0, 0));
      due(0, x.looked(0, 1));
      for (int p = 0; p < 8; p++) {
        x.person(THIEF + 9, p % 3);
      }
      due(256, x.looked(0, 0));
      due(0, x.looked(0, 1));
      for (int p = 0; p < 8; p++) {
        x.become(p, LOVER);
      }
      fill(x, 0, 8, 16, 16, 16);
      due(1, x.looked(0, 0));
      due(255, x.looked(0, 1));
    });
    test("LOOKED: WEEDS and THIEVES left out, and what the ears have", () -> {
      WheatCounts x = dark(3, LOOKER, 0, THIEF + 9, 0, STEWARD + 9, 1);
      sowAll(x, GRAINS, 0, 0, 50000);
      sowAll(x, WEEDS, 99, 99, 99);
      fill(x, 0, 8, 1, 1, 0);
      due(2, x.looked(0, 0));
      due(5, x.looked(0, 1));
    });
  }

  private static WheatCounts looking() {
    WheatCounts x = dark(4, LOOKER, 1, THIEF + 2, 2);
    sowAll(x, GRAINS, 8, 8, 8, 8);
    fill(x, 0, 8, 0, 1, 0, 0);
    fill(x, 1, 16, 0, 1, 0);
    fill(x, 2, 32, 0, 1, 0, 0, 0);
    return x;
  }

  private static void promises23And24() {
    test("promise 23: NONE: not all together", () -> {
      due(NONE, made(3).watch());
      due(NONE, dark(3, LOOKER, 0, LOOKER, 1).watch());
      due(NONE, dark(10, 0, 0, 0, 1, 0, 2, 0, 3, 0, 4, 0, 5, 0, 6, 0, 7).watch());
      refused(() -> dark(3, LOOKER, 0, LOOKER, 1), NONE, y -> y.watch());
      refused(WheatCountsEdgesTest::empty, NONE, y -> y.watch());
    });
    test("WATCH: all eight may be wanted, one may do", () -> {
      WheatCounts x = dark(8, 0, 0, 0, 1, 0, 2, 0, 3, 0, 4, 0, 5, 0, 6, 0, 7);
      due(255, x.watch());
      read(x, 0, "7");
      due(1, x.watch());
      read(x, 0, "5");
      due(4, x.watch());
    });
    test("WATCH: the fewest ahead of the least", () -> {
      WheatCounts x = made(5, SCARECROW, 0, SCARECROW, 4, LOOKER, 2);
      read(x, 0, "2");
      due(4, x.watch());
    });
    test("WATCH: of several sets the least, by their numbers", () -> {
      WheatCounts x = made(6, LOOKER, 1, LOOKER, 1, LOOKER, 4, LOOKER, 4);
      read(x, 0, "1");
      due(1 + 4, x.watch());
      WheatCounts other = made(8, LOOKER + 3, 0, MIRROR + 2, 0, LOOKER + 2, 3, LOOKER + 3, 7);
      read(other, 0, "m");
      // 0 SEES 0 to 3, 1 SEES 0 to 1 and 6 to 7, 2 SEES 1 to 5, 3 SEES 4 to 7: 6 is below 9, which has the first one
      due(2 + 4, other.watch());
    });
    test("WATCH: THIEVES, who COUNT nothing, SEE too", () -> {
      due(1, made(3, THIEF, 1).watch());
    });
    test("promise 24: BEYOND", () -> {
      refused(WheatCountsEdgesTest::rich, BEYOND, y -> y.hide(5), y -> y.hide(-1), y -> y.hide(LEAST), y -> y.hide(MOST));
    });
    test("promise 24: NONE: by none", () -> {
      WheatCounts x = made(10, LOOKER, 9);
      due(NONE, x.hide(9));
      due(256, x.hide(8));
      due(0, x.hide(5));
      refused(() -> made(3, LOOKER, 1, MIRROR, 0), NONE, y -> y.hide(1), y -> y.hide(0), y -> y.hide(2));
    });
    test("HIDE: none more, if nobody SEES it", () -> {
      WheatCounts x = made(10);
      due(0, x.hide(0));
      due(0, x.hide(9));
      x.person(LOOKER, 0);
      due(0, x.hide(4));
      due(0, x.told(2));
    });
    test("HIDE: HEDGES more: those that stand are not told again", () -> {
      WheatCounts x = made(10, LOOKER, 2, LOOKER, 6);
      read(x, 0, "9");
      due(4 + 8, x.hide(3));
      x.lay(HEDGES, 4);
      due(8, x.hide(3));
      x.lay(HEDGES, 8);
      due(4, x.hide(3));
      x.lay(HEDGES, 4 + 8);
      due(0, x.hide(3));
      due(12, x.count(3));
    });
    test("HIDE: one HEDGE hides it from all who stand on one side; of several the least", () -> {
      WheatCounts x = made(10, LOOKER, 0, LOOKER, 0);
      read(x, 0, "9");
      due(1, x.hide(9));
      x.lead(1, AT, 4);
      // one at 4 or beyond hides it from both
      due(16, x.hide(9));
      x.lead(1, AT, 8);
      due(256, x.hide(9));
      due(1 + 16, x.hide(4));
    });
    test("HIDE: of two HEDGES the least set", () -> {
      WheatCounts x = made(7, LOOKER, 0, LOOKER, 6);
      read(x, 0, "9");
      due(1 + 8, x.hide(3));
      due(1 + 2, x.hide(1));
      due(1 + 32, x.hide(5));
    });
  }

  private static void promises25And26() {
    test("promise 25: n 0 to 50", () -> {
      WheatCounts x = dark(3, LOVER, 1);
      due(0, x.gains(0, 0));
      due(2, x.gains(0, 1));
      due(100, x.gains(0, 50));
      refused(WheatCountsEdgesTest::rich, BEYOND, y -> y.gains(0, 51), y -> y.gains(0, -1), y -> y.gains(0, LEAST), y -> y.gains(0, MOST));
    });
    test("promise 25: no such one", () -> {
      refused(WheatCountsEdgesTest::rich, BEYOND, y -> y.gains(4, 0), y -> y.gains(-1, 0), y -> y.gains(LEAST, 0), y -> y.gains(MOST, 0));
      refused(WheatCountsEdgesTest::empty, BEYOND, y -> y.gains(0, 0));
      refused(WheatCountsEdgesTest::crowded, BEYOND, y -> y.gains(8, 0));
      due(1, dark(3, 0, 0, 0, 0, 0, 0, 0, 0, 0, 0, 0, 0, 0, 0, 0, 1).gains(7, 1));
    });
    test("promise 25: below 0 too; any number", () -> {
      WheatCounts x = dark(3, THIEF + 9, 0);
      x.sow(0, GRAINS, 99999);
      due(-9, x.gains(0, 1));
      due(-450, x.gains(0, 50));
      read(x, 1, "99");
      due(-4950, x.gains(0, 50));
    });
    test("GAINS: the half is cut with that one and without", () -> {
      WheatCounts x = dark(3, SCARECROW, 0, SCARECROW, 0, SCARECROW, 1);
      due(1, x.gains(0, 1));
      due(1, x.gains(1, 1));
      due(0, x.gains(2, 1));
    });
    test("GAINS: the others go on as they are: KIND, m, AT, WAY", () -> {
      WheatCounts x = dark(3, LOOKER, 2, THIEF + 5, 0, LOOKER, 2);
      x.sow(0, GRAINS, 10);
      x.lead(1, WAY, 1);
      due(2, x.gains(0, 2));
      due(-5, x.gains(1, 2));
      due(2, x.gains(2, 2));
      x.sow(2, GRAINS, 1);
      // the THIEF comes to 2 in the third HOUR, and takes 5 of 1 + 6 or, without one of them, 4 of 1 + 3
      due(5 + 2 - 5, x.gains(0, 3));
      due(3, x.count(1));
      due(1, x.ofPerson(1, 3));
    });
    test("GAINS: GRAINS that are held gain nothing", () -> {
      WheatCounts x = dark(3, LOVER, 0);
      x.sow(0, GRAINS, 99998);
      due(1, x.gains(0, 1));
      due(1, x.gains(0, 9));
      x.sow(0, GRAINS, 99999);
      due(0, x.gains(0, 9));
    });
    test("promise 26: part 0, 1; no such CELL", () -> {
      refused(WheatCountsEdgesTest::rich, BEYOND, y -> y.odds(5, 0), y -> y.odds(-1, 1), y -> y.odds(LEAST, 0), y -> y.odds(MOST, 0),
          y -> y.odds(0, 2), y -> y.odds(0, -1), y -> y.odds(0, LEAST), y -> y.odds(0, MOST));
    });
    test("ODDS: lowest terms of 0 to 10 by 10; 0 is 0 by 1", () -> {
      int[][] lowest = {{0, 1}, {1, 10}, {1, 5}, {3, 10}, {2, 5}, {1, 2}, {3, 5}, {7, 10}, {4, 5}, {9, 10}, {1, 1}};
      WheatCounts x = made(3, LOOKER, 0);
      for (int many = 0; many <= 10; many++) {
        read(x, 0, "f<" + many);
        due(lowest[many][0], x.odds(1, 0));
        due(lowest[many][1], x.odds(1, 1));
        due(1, x.odds(0, 0));
        due(1, x.odds(0, 1));
        due(0, x.odds(2, 0));
        due(1, x.odds(2, 1));
      }
    });
    test("ODDS: by somebody: of each FOG once, whoever SEES; FOG is as it was", () -> {
      WheatCounts x = made(3, LOOKER + 3, 0, LOOKER + 5, 0);
      x.lay(FOG, 6);
      read(x, 0, "f<m");
      due(1, x.odds(1, 0));
      due(2, x.odds(1, 1));
      x.become(1, LOOKER + 9);
      due(9, x.odds(1, 0));
      due(10, x.odds(1, 1));
      due(6, x.count(5));
    });
  }

  private static void promises27To29() {
    test("promise 27: z becomes any number", () -> {
      WheatCounts x = new WheatCounts();
      int was = 1;
      for (int v : new int[] {0, -1, LEAST, MOST, BEYOND, KIND, 1}) {
        due(was, x.seed(v));
        due(v, x.count(11));
        was = v;
      }
      for (int k = 1; k <= 5; k++) {
        due(0, x.told(k));
      }
    });
    test("promise 28: no such one, no such act", () -> {
      refused(WheatCountsEdgesTest::rich, BEYOND, y -> y.voice(4, 0, 0), y -> y.voice(-1, 0, 0), y -> y.voice(LEAST, 0, 0), y -> y.voice(MOST, 0, 0),
          y -> y.voice(0, 4, 0), y -> y.voice(0, -1, 0), y -> y.voice(0, LEAST, 0), y -> y.voice(0, MOST, 0));
      refused(WheatCountsEdgesTest::empty, BEYOND, y -> y.voice(0, 0, 0));
      refused(WheatCountsEdgesTest::crowded, BEYOND, y -> y.voice(8, 0, 0));
    });
    test("VOICES: ints that go round", () -> {
      WheatCounts x = made(3, LOOKER, 0, LOOKER + 9, 0, LOVER, 0, THIEF, 0, MIRROR + 4, 0);
      due(LEAST, x.voice(1, 0, MOST));
      due(MOST - 8, x.voice(1, 2, LEAST));
      due(-2, x.voice(0, 1, MOST));
      due(0, x.voice(0, 1, LEAST));
      due((MOST - 1) * 3 + 6, x.voice(2, 0, MOST - 1));
      due((LEAST + 2) * 3, x.voice(2, 0, LEAST));
      due(LEAST, x.voice(3, 2, LEAST));
      due((LEAST + 4) * 2 - (1 - 4), x.voice(4, 1, MOST));
    });
    test("VOICES: an answer that looks like an ERROR is none", () -> {
      WheatCounts x = made(3, LOOKER, 0);
      for (int k = 1; k <= 5; k++) {
        due(LOW - k, x.voice(0, 0, LOW - k));
        due(1, x.count(10));
      }
      for (int k = 1; k <= 5; k++) {
        due(0, x.told(k));
      }
    });
    test("VOICES: each act of each KIND, with each m and number", () -> {
      for (int km = 0; km < 70; km++) {
        WheatCounts x = made(3);
        int n = km % 8;
        for (int p = 0; p <= n; p++) {
          x.person(km, 0);
        }
        for (int v : new int[] {0, -1, 77, LEAST, MOST}) {
          int[] want = voices(km / 10, n, km % 10, v);
          for (int act = 0; act < 4; act++) {
            due(want[act], x.voice(n, act, v));
          }
        }
      }
    });
    test("promise 29: the first and the last of THE TRACE; NONE before and behind", () -> {
      WheatCounts x = made(3, STEWARD, 0);
      x.voice(0, 3, 1);
      due(71, x.trace(0));
      due(12, x.trace(8));
      due(9, x.count(10));
      refused(WheatCountsEdgesTest::traced, NONE, y -> y.trace(9), y -> y.trace(-1), y -> y.trace(39), y -> y.trace(40), y -> y.trace(LEAST), y -> y.trace(MOST));
      refused(WheatCountsEdgesTest::empty, NONE, y -> y.trace(0));
    });
    test("THE TRACE: BODIES of each act of each KIND, as they began, what stands left first", () -> {
      int[][] bodies = {
        {10}, {11, 10}, {12}, {13, 11, 10, 12},
        {20, 10}, {11, 20, 10}, {12}, {13, 11, 20, 10, 12},
        {10}, {30, 11, 10, 12}, {12}, {13, 30, 11, 10, 12, 12},
        {10}, {11, 10}, {40, 12}, {13, 11, 10, 40, 12},
        {20, 10}, {11, 20, 10}, {12}, {50, 13, 11, 20, 10, 12, 20, 10},
        {10}, {60, 30, 11, 10, 12}, {12}, {13, 60, 30, 11, 10, 12, 12},
        {10}, {11, 10}, {70, 40, 12}, {71, 11, 10, 13, 11, 10, 70, 40, 12}};
      for (int i = 0; i < bodies.length; i++) {
        WheatCounts x = made(3, 10 * (i / 4), 0);
        x.voice(0, i % 4, 5);
        due(bodies[i].length, x.count(10));
        for (int k = 0; k < bodies[i].length; k++) {
          due(bodies[i][k], x.trace(k));
        }
        due(NONE, x.trace(bodies[i].length));
      }
    });
    test("THE TRACE is of the latest voice(), also if that is shorter", () -> {
      WheatCounts x = traced();
      x.voice(0, 0, 1);
      due(1, x.count(10));
      due(10, x.trace(0));
      due(NONE, x.trace(1));
    });
    test("THE TRACE stays when a voice() is refused", () -> {
      WheatCounts x = traced();
      due(BEYOND, x.voice(0, 4, 1));
      due(BEYOND, x.voice(1, 0, 1));
      due(9, x.count(10));
      due(71, x.trace(0));
    });
  }

  private static WheatCounts traced() {
    WheatCounts x = made(3, STEWARD, 0);
    x.voice(0, 3, 1);
    return x;
  }

  /** What the BODIES of a KIND come to, written out. */
  private static int[] voices(int kind, int n, int m, int x) {
    int looks = x + n;
    int glances = x - m;
    switch (kind) {
      case 1: return row((x + n) * 3, (x + n) * 6, glances, (x + n) * 6 ^ glances);
      case 2: return row(looks, looks * 2 - (1 - m), glances, looks * 2 - (1 - m) ^ glances);
      case 3: return row(looks, looks * 2, -glances, looks * 2 ^ -glances);
      case 4: return row((x + n) * 3, (x + n) * 6, glances, ((x + n) * 6 ^ glances) - (2 + n) * 3);
      case 5: return row(looks, (looks + 1) * 2 - (1 - m), glances, (looks + 1) * 2 - (1 - m) ^ glances);
      case 6: return row(looks, looks * 2, -glances ^ n, looks * 2 - (looks * 2 ^ (-glances ^ n)));
      default: return row(looks, looks * 2, glances, looks * 2 ^ glances);
    }
  }

  private static int[] row(int... numbers) {
    return numbers;
  }

  private static void promises30And31() {
    test("promise 30: n 0 to 40", () -> {
      WheatCounts x = new WheatCounts();
      for (int bits = 8; bits <= 32; bits *= 2) {
        due(1, x.sheet(0, bits, 40));
        due(1, x.put(0, 39, 1));
        due(BEYOND, x.put(0, 40, 1));
        due(1, x.sheet(0, bits, 1));
        due(BEYOND, x.put(0, 1, 1));
        due(1, x.sheet(0, bits, 0));
        due(BEYOND, x.put(0, 0, 1));
        due(0, x.weeds(0));
      }
      refused(WheatCountsEdgesTest::rich, BEYOND, y -> y.sheet(0, 8, 41), y -> y.sheet(1, 16, 41), y -> y.sheet(3, 32, 41), y -> y.sheet(0, 8, MOST));
    });
    test("promise 30: bits 8, 16, 32, 0", () -> {
      for (int bits = -40; bits <= 70; bits++) {
        boolean known = bits == 0 || bits == 8 || bits == 16 || bits == 32;
        due(known ? 1 : BEYOND, new WheatCounts().sheet(0, bits, 3));
      }
      refused(WheatCountsEdgesTest::rich, BEYOND, y -> y.sheet(0, 7, 1), y -> y.sheet(0, 9, 1), y -> y.sheet(0, 64, 1), y -> y.sheet(0, -8, 1), y -> y.sheet(0, LEAST, 1), y -> y.sheet(0, MOST, 1));
    });
    test("promise 30: SHEETS 0 .. 3", () -> {
      WheatCounts x = new WheatCounts();
      for (int sheet = 0; sheet < 4; sheet++) {
        due(NONE, x.weeds(sheet));
        due(1, x.sheet(sheet, 8, 2));
        due(2, x.weeds(sheet));
      }
      refused(WheatCountsEdgesTest::rich, BEYOND, y -> y.sheet(4, 8, 1), y -> y.sheet(-1, 8, 1), y -> y.sheet(LEAST, 8, 1), y -> y.sheet(MOST, 0, 1));
    });
    test("promise 30: STATE: n is below 0", () -> {
      refused(WheatCountsEdgesTest::rich, STATE, y -> y.sheet(0, 8, -1), y -> y.sheet(1, 16, -41), y -> y.sheet(3, 32, LEAST));
    });
    test("promise 30: BEYOND of a SHEET and of bits is asked ahead of STATE, STATE ahead of BEYOND of n", () -> {
      refused(WheatCountsEdgesTest::rich, BEYOND, y -> y.sheet(4, 8, -1), y -> y.sheet(-1, 0, -1), y -> y.sheet(0, 12, -1), y -> y.sheet(0, 64, LEAST));
      refused(WheatCountsEdgesTest::rich, STATE, y -> y.sheet(0, 8, LEAST), y -> y.sheet(0, 32, -100));
    });
    test("promise 30: bits 0: it is missing, n doesn't matter", () -> {
      for (int n : new int[] {0, 1, 40, 41, -1, LEAST, MOST}) {
        WheatCounts x = new WheatCounts();
        due(1, x.sheet(2, 16, 4));
        due(1, x.sheet(2, 0, n));
        due(NONE, x.weeds(2));
        due(NONE, x.put(2, 0, 1));
        due(1, x.sheet(2, 0, n));
        due(0, x.told(3));
        due(0, x.told(1));
      }
    });
    test("promise 30: all numbers are 0, also where others stood", () -> {
      WheatCounts x = made(10);
      for (int bits = 8; bits <= 32; bits *= 2) {
        x.sheet(0, bits, 40);
        for (int i = 0; i < 40; i++) {
          x.put(0, i, 99);
        }
        x.sheet(0, 0, 0);
        x.sheet(0, bits, 40);
        for (int from = 0; from < 40; from += 10) {
          x.sheet(1, bits, 10);
          due(10, x.move(0, from, 1, 0, 10));
          due(-1, x.judge(1));
        }
        x.put(0, 3, 5);
        x.sheet(0, bits, 10);
        due(-1, x.judge(0));
      }
    });
    test("promise 31: no such SHEET", () -> {
      refused(WheatCountsEdgesTest::rich, BEYOND, y -> y.put(4, 0, 1), y -> y.put(-1, 0, 1), y -> y.put(LEAST, 0, 1), y -> y.put(MOST, 0, 1));
    });
    test("promise 31: NONE is asked ahead of BEYOND of a number", () -> {
      refused(WheatCountsEdgesTest::rich, NONE, y -> y.put(3, 0, 1), y -> y.put(3, -1, 1), y -> y.put(3, 40, 1));
    });
    test("promise 31: no such number", () -> {
      due(1, rich().put(0, 2, 1));
      refused(WheatCountsEdgesTest::rich, BEYOND, y -> y.put(0, 3, 1), y -> y.put(0, -1, 1), y -> y.put(1, 2, 1), y -> y.put(0, LEAST, 1), y -> y.put(0, MOST, 1));
    });
    test("promise 31: the lowest bits of v", () -> {
      int[][] kept = {{8, 127}, {8, 0}, {16, 32767}, {16, 0}, {32, 99999}, {32, 0}};
      for (int[] two : kept) {
        WheatCounts x = made(3);
        x.sheet(0, two[0], 3);
        x.sow(1, GRAINS, two[1]);
        for (int round = -2; round <= 2; round++) {
          x.put(0, 1, 1);
          due(1, x.put(0, 1, two[0] == 32 ? two[1] : two[1] + round * (1 << two[0])));
          due(-1, x.judge(0));
        }
      }
    });
    test("promise 31: numbers of 8 and 16 bits have a sign, so that 128 is none of the GRAINS", () -> {
      WheatCounts x = made(3);
      x.sheet(0, 8, 3);
      x.sow(0, GRAINS, 128);
      x.put(0, 0, 128);
      due(0, x.judge(0));
      x.sheet(0, 16, 3);
      x.put(0, 0, 128);
      due(-1, x.judge(0));
      x.sow(0, GRAINS, 32768);
      x.put(0, 0, 32768);
      due(0, x.judge(0));
      x.sheet(0, 32, 3);
      x.put(0, 0, 32768);
      due(-1, x.judge(0));
    });
  }

  private static void dueNumbers(WheatCounts x, int sheet, int... numbers) {
    for (int i = 0; i < x.count(0); i++) {
      x.sow(i, GRAINS, i < numbers.length ? numbers[i] : 0);
    }
    due(numbers.length == x.count(0) ? -1 : numbers.length, x.judge(sheet));
  }

  private static WheatCounts withSheets() {
    WheatCounts x = made(6);
    fill(x, 0, 8, 1, 2, 3, 4, 5, 6);
    fill(x, 1, 8, 11, 12, 13);
    fill(x, 2, 16, 21, 22);
    return x;
  }

  private static void promise32() {
    test("promise 32: no such SHEET, the one or the other", () -> {
      refused(WheatCountsEdgesTest::withSheets, BEYOND, y -> y.move(4, 0, 0, 0, 1), y -> y.move(0, 0, 4, 0, 1), y -> y.move(-1, 0, 0, 0, 1),
          y -> y.move(0, 0, -1, 0, 1), y -> y.move(LEAST, 0, MOST, 0, 0));
    });
    test("promise 32: BEYOND of a SHEET is asked ahead of NONE", () -> {
      refused(WheatCountsEdgesTest::withSheets, BEYOND, y -> y.move(3, 0, 4, 0, 1), y -> y.move(4, 0, 3, 0, 1));
    });
    test("promise 32: NONE: one is missing, the one or the other", () -> {
      refused(WheatCountsEdgesTest::withSheets, NONE, y -> y.move(3, 0, 0, 0, 1), y -> y.move(0, 0, 3, 0, 1), y -> y.move(3, 0, 3, 0, 0));
    });
    test("promise 32: NONE is asked ahead of KIND and BEYOND of n, i, j", () -> {
      refused(WheatCountsEdgesTest::withSheets, NONE, y -> y.move(3, -1, 2, 0, 1), y -> y.move(2, 0, 3, 0, -1), y -> y.move(0, 0, 3, 99, 99));
    });
    test("promise 32: KIND: they are of unlike bits", () -> {
      refused(WheatCountsEdgesTest::withSheets, KIND, y -> y.move(0, 0, 2, 0, 1), y -> y.move(2, 0, 0, 0, 1), y -> y.move(2, 0, 1, 0, 0));
      int[] bits = {8, 16, 32};
      for (int one : bits) {
        for (int other : bits) {
          WheatCounts x = new WheatCounts();
          x.sheet(0, one, 2);
          x.sheet(1, other, 2);
          due(one == other ? 2 : KIND, x.move(0, 0, 1, 0, 2));
        }
      }
    });
    test("promise 32: KIND is asked ahead of BEYOND of n, i, j", () -> {
      refused(WheatCountsEdgesTest::withSheets, KIND, y -> y.move(0, 0, 2, 0, -1), y -> y.move(0, -1, 2, 0, 1), y -> y.move(0, 0, 2, 9, 9));
    });
    test("promise 32: BEYOND: n, i, or j is below 0", () -> {
      refused(WheatCountsEdgesTest::withSheets, BEYOND, y -> y.move(0, 0, 1, 0, -1), y -> y.move(0, -1, 1, 0, 1), y -> y.move(0, 0, 1, -1, 1),
          y -> y.move(0, 6, 1, 3, -1), y -> y.move(0, -1, 1, 0, 0), y -> y.move(0, 0, 1, -1, 0), y -> y.move(0, LEAST, 1, LEAST, LEAST));
    });
    test("promise 32: BEYOND: they don't stand there", () -> {
      refused(WheatCountsEdgesTest::withSheets, BEYOND, y -> y.move(0, 0, 1, 0, 4), y -> y.move(0, 4, 1, 0, 3), y -> y.move(1, 0, 0, 0, 4),
          y -> y.move(1, 1, 0, 0, 3), y -> y.move(0, 0, 1, 1, 3), y -> y.move(1, 0, 0, 4, 3), y -> y.move(0, 6, 1, 0, 1), y -> y.move(0, 0, 1, 3, 1),
          y -> y.move(0, 7, 1, 0, 0), y -> y.move(0, 0, 1, 4, 0));
    });
    test("promise 32: BEYOND: numbers that go round", () -> {
      refused(WheatCountsEdgesTest::withSheets, BEYOND, y -> y.move(0, MOST, 1, 0, 1), y -> y.move(0, 0, 1, MOST, 1), y -> y.move(0, 0, 1, 0, MOST),
          y -> y.move(0, MOST, 1, MOST, MOST), y -> y.move(0, 1, 1, 1, MOST), y -> y.move(0, MOST, 0, MOST, 2));
    });
    test("promise 32: the last that stand there, none at the very end", () -> {
      WheatCounts x = withSheets();
      due(3, x.move(0, 3, 1, 0, 3));
      dueNumbers(x, 1, 4, 5, 6);
      due(1, x.move(0, 0, 1, 2, 1));
      dueNumbers(x, 1, 4, 5, 1);
      due(0, x.move(0, 6, 1, 3, 0));
      due(0, x.move(0, 0, 1, 0, 0));
      dueNumbers(x, 1, 4, 5, 1);
      dueNumbers(x, 0, 1, 2, 3, 4, 5, 6);
      x.sheet(3, 8, 0);
      due(0, x.move(3, 0, 3, 0, 0));
      due(0, x.move(3, 0, 0, 6, 0));
      due(BEYOND, x.move(3, 0, 0, 0, 1));
    });
    test("promise 32: all 40 numbers", () -> {
      WheatCounts x = made(10);
      x.sheet(0, 16, 40);
      x.sheet(1, 16, 40);
      for (int i = 0; i < 40; i++) {
        x.put(0, i, i + 1);
      }
      due(40, x.move(0, 0, 1, 0, 40));
      due(BEYOND, x.move(0, 0, 1, 0, 41));
      for (int from = 0; from < 40; from += 10) {
        x.sheet(2, 16, 10);
        due(10, x.move(1, from, 2, 0, 10));
        dueNumbers(x, 2, from + 1, from + 2, from + 3, from + 4, from + 5, from + 6, from + 7, from + 8, from + 9, from + 10);
      }
    });
    test("promise 32: to the same SHEET, as they all were", () -> {
      WheatCounts x = withSheets();
      due(5, x.move(0, 0, 0, 1, 5));
      dueNumbers(x, 0, 1, 1, 2, 3, 4, 5);
      due(5, x.move(0, 1, 0, 0, 5));
      dueNumbers(x, 0, 1, 2, 3, 4, 5, 5);
      due(6, x.move(0, 0, 0, 0, 6));
      dueNumbers(x, 0, 1, 2, 3, 4, 5, 5);
    });
  }

  private static void promises33And34() {
    test("promise 33: no such SHEET; NONE: it is missing", () -> {
      refused(WheatCountsEdgesTest::rich, BEYOND, y -> y.weeds(4), y -> y.weeds(-1), y -> y.weeds(LEAST), y -> y.weeds(MOST));
      refused(WheatCountsEdgesTest::rich, NONE, y -> y.weeds(3));
    });
    test("promise 33: up to the first that is not 0 to 99, no ERROR then", () -> {
      int[] bad = {100, -1, 127, -128, LEAST, MOST};
      for (int v : bad) {
        for (int place = 0; place < 3; place++) {
          WheatCounts x = made(3);
          sowAll(x, WEEDS, 7, 7, 7);
          fill(x, 0, 32, 99, 0, 99);
          x.put(0, place, v);
          due(place, x.weeds(0));
          for (int cell = 0; cell < 3; cell++) {
            due(cell >= place ? 7 : cell == 1 ? 0 : 99, x.ofCell(cell, WEEDS));
          }
          for (int k = 1; k <= 5; k++) {
            due(0, x.told(k));
          }
        }
      }
    });
    test("promise 33: numbers for which there is no CELL, CELLS for which there is no number", () -> {
      for (int n = 3; n <= 10; n++) {
        WheatCounts x = made(n);
        x.sow(n - 1, WEEDS, 55);
        x.sheet(0, 8, 40);
        x.put(0, n, 100);
        due(n, x.weeds(0));
        due(0, x.ofCell(n - 1, WEEDS));
        x.sow(n - 1, WEEDS, 55);
        x.sheet(0, 8, n - 1);
        due(n - 1, x.weeds(0));
        due(55, x.ofCell(n - 1, WEEDS));
        x.sheet(0, 8, 0);
        due(0, x.weeds(0));
      }
    });
    test("promise 34: no such SHEET; NONE: it is missing", () -> {
      refused(WheatCountsEdgesTest::rich, BEYOND, y -> y.judge(4), y -> y.judge(-1), y -> y.judge(LEAST), y -> y.judge(MOST));
      refused(WheatCountsEdgesTest::rich, NONE, y -> y.judge(3));
    });
    test("promise 34: the first that isn't so; -1: all are", () -> {
      WheatCounts x = made(10);
      int[] grains = {0, 99999, 1, 2, 3, 4, 5, 6, 7, 99998};
      sowAll(x, GRAINS, grains);
      fill(x, 0, 32, grains);
      due(-1, x.judge(0));
      for (int i = 9; i >= 0; i--) {
        x.put(0, i, -1);
        due(i, x.judge(0));
      }
      due(0, x.told(1) + x.told(2));
    });
    test("promise 34: one that lacks, one that is too many", () -> {
      for (int n = 3; n <= 10; n++) {
        WheatCounts x = made(n);
        x.sheet(0, 8, n);
        due(-1, x.judge(0));
        x.sheet(0, 8, n - 1);
        due(n - 1, x.judge(0));
        x.sheet(0, 8, n + 1);
        due(n, x.judge(0));
        x.sheet(0, 8, 40);
        due(n, x.judge(0));
        x.put(0, 2, 1);
        due(2, x.judge(0));
        x.sheet(0, 8, 0);
        due(0, x.judge(0));
      }
    });
  }

  private static void promises35And36() {
    test("promise 35: how often that was done, whatever was kept or restored", () -> {
      WheatCounts x = new WheatCounts();
      for (int i = 1; i <= 9; i++) {
        due(i, x.image());
        due(0, x.restore());
        due(0, x.restore());
      }
      due(10, x.image());
    });
    test("promise 35: in place of one ahead", () -> {
      WheatCounts x = made(3);
      x.sow(0, GRAINS, 1);
      x.image();
      x.sow(0, GRAINS, 2);
      x.image();
      x.sow(0, GRAINS, 3);
      x.restore();
      due(2, x.ofCell(0, GRAINS));
    });
    test("promise 35: all is kept, each of the things there are", () -> {
      Call[] changes = {y -> y.sow(4, GRAINS, 1), y -> y.sow(4, WEEDS, 9), y -> y.lay(HEDGES, 15), y -> y.lay(LEAN, 31), y -> y.lay(FOG, 9),
          y -> y.person(0, 0), y -> y.lead(3, AT, 0), y -> y.lead(3, WAY, 1), y -> y.become(3, 11), y -> y.feed('9', 1), y -> y.text(0),
          y -> y.text(1), y -> y.hours(50), y -> y.loose(40), y -> y.evening(), y -> y.hail(9), y -> y.seed(99), y -> y.tell(7), y -> y.check()};
      for (Call change : changes) {
        WheatCounts asked = rich();
        asked.image();
        change.on(asked);
        due(5, asked.restore());
        WheatCounts left = rich();
        left.image();
        if (!allOf(asked).equals(allOf(left))) {
          fail("something was not kept");
        }
      }
    });
    test("promise 35: another field is kept too", () -> {
      WheatCounts x = made(10);
      for (int cell = 0; cell < 10; cell++) {
        x.sow(cell, GRAINS, cell + 1);
        x.sow(cell, WEEDS, cell + 2);
      }
      x.image();
      x.field(3);
      due(0, x.restore());
      due(10, x.count(0));
      due(55, x.count(7));
      due(10, x.ofCell(9, GRAINS));
      due(11, x.ofCell(9, WEEDS));
    });
    test("promise 35: but SHEETS, THE TRACE, what told() tells", () -> {
      WheatCounts x = made(3, LOOKER, 0);
      fill(x, 0, 8, 5, 6, 7);
      x.sheet(1, 16, 2);
      x.voice(0, 0, 1);
      x.image();
      x.put(0, 0, 9);
      x.sheet(1, 0, 0);
      x.sheet(2, 32, 3);
      x.voice(0, 1, 1);
      x.hail(0);
      x.restore();
      due(3, x.weeds(0));
      due(9, x.ofCell(0, WEEDS));
      due(NONE, x.weeds(1));
      due(3, x.weeds(2));
      due(2, x.count(10));
      due(11, x.trace(0));
      due(1, x.told(1));
    });
    test("promise 36: NONE: there is none", () -> {
      refused(WheatCountsEdgesTest::empty, NONE, y -> y.restore());
      refused(WheatCountsEdgesTest::crowded, NONE, y -> y.restore());
    });
    test("promise 36: the IMAGE stays, whatever is done behind", () -> {
      WheatCounts x = late(9990);
      x.sow(2, GRAINS, 3);
      feed(x, "(m");
      x.tell(0);
      x.image();
      for (int i = 0; i < 3; i++) {
        x.hours(9);
        due(9999, x.count(2));
        feed(x, ")");
        due(1, x.text(0));
        x.check();
        x.sow(2, GRAINS, 0);
        due(9990, x.restore());
        due(9990, x.count(2));
        due(3, x.ofCell(2, GRAINS));
        due(2, x.count(8));
        due(1, x.count(9));
        due(3, x.law(0, 5, 0, 0));
      }
    });
    test("promise 36: an IMAGE of no TEXT takes TEXTS away", () -> {
      WheatCounts x = made(3);
      x.image();
      read(x, 0, "9");
      read(x, 1, "9");
      x.restore();
      due(2, x.law(0, 7, 3, 0));
      due(7, x.law(1, 7, 3, 0));
    });
  }

  private static WheatCounts waiting(int many) {
    WheatCounts x = dark(3, LOOKER, 0);
    for (int i = 1; i <= many; i++) {
      x.tell(i);
    }
    return x;
  }

  private static void promises37To40() {
    test("promise 37: 20 wait; then FULL", () -> {
      WheatCounts x = made(3);
      for (int i = 1; i <= 20; i++) {
        due(i, x.tell(0));
        due(i, x.count(9));
      }
      due(FULL, x.tell(0));
      due(20, x.count(9));
      refused(() -> waiting(20), FULL, y -> y.tell(0), y -> y.tell(21), y -> y.tell(LEAST), y -> y.tell(MOST));
      refused(WheatCountsEdgesTest::crowded, FULL, y -> y.tell(3));
      due(20, waiting(19).tell(5));
    });
    test("promise 37: any number waits", () -> {
      for (int v : new int[] {LEAST, MOST, -1, BEYOND}) {
        WheatCounts x = made(3);
        due(1, x.tell(v));
        due(1, x.check());
        due(0, x.told(1));
      }
    });
    test("promise 38: none wait: 0; 20 that are all so: 0", () -> {
      due(0, waiting(0).check());
      for (int many = 1; many <= 20; many++) {
        WheatCounts x = waiting(many);
        due(0, x.check());
        due(0, x.count(9));
        due(0, x.count(2));
        due(0, x.count(7));
      }
    });
    test("promise 38: 1 and the place of the first that isn't so, 0 to 19", () -> {
      for (int place = 0; place < 20; place++) {
        WheatCounts x = waiting(place);
        x.tell(place);
        for (int i = place + 2; i <= 20; i++) {
          x.tell(i == 20 ? 0 : i);
        }
        due(1 + place, x.check());
        due(0, x.count(9));
        due(0, x.check());
      }
    });
    test("promise 39: what 0 to 11", () -> {
      refused(WheatCountsEdgesTest::rich, BEYOND, y -> y.count(12), y -> y.count(-1), y -> y.count(LEAST), y -> y.count(MOST));
    });
    test("promise 39: each at its most", () -> {
      WheatCounts x = crowded();
      x.lay(HEDGES, 511);
      x.lay(LEAN, 1023);
      x.lay(FOG, 9);
      for (int cell = 0; cell < 10; cell++) {
        x.sow(cell, GRAINS, 99999);
      }
      x.seed(MOST);
      int[] most = {10, 8, 0, 511, 1023, 9, 0, 999990, 50, 20, 0, MOST};
      for (int what = 0; what < 12; what++) {
        due(most[what], x.count(what));
      }
      due(9999, late(9999).count(2));
    });
    test("promise 40: k 1 to 5; BEYOND: another k, counted, too", () -> {
      refused(WheatCountsEdgesTest::rich, BEYOND, y -> y.told(0), y -> y.told(6), y -> y.told(-1), y -> y.told(LEAST), y -> y.told(MOST));
      WheatCounts x = made(3);
      for (int i = 0; i < 4; i++) {
        due(i, x.told(1));
        due(BEYOND, x.told(6));
      }
      due(4, x.told(1));
    });
    test("promise 40: each ERROR by itself, by many acts", () -> {
      WheatCounts x = made(3, 0, 0);
      for (int i = 0; i < 60; i++) {
        x.hail(0);
        x.restore();
        x.field(3);
        x.as(0, 6);
      }
      due(60, x.told(1));
      due(60, x.told(2));
      due(60, x.told(3));
      due(0, x.told(4));
      due(60, x.told(5));
    });
  }
}
