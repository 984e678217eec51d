import java.util.ArrayList;
import java.util.Arrays;
import java.util.List;
import java.util.Random;

/**
 * What would be (promises 18 to 26 and 38), compared with what is, once it is done: an estate like it is made anew,
 * its PEOPLE are led, its HEDGES laid, its HOURS gone through by the other acts.
 */
public final class WheatCountsThoughtTest {
  private static final int NONE = -1000000002;
  private static final int ESTATES = 2000;
  private static final String[] SIGHTS = {"", "m%4", "2-f/4", "h%5", "(m+h)%4", "f<3&m>2", "9", "m-f"};
  private static final String[] THEFTS = {"", "g/2", "m+h%3", "g%7", "g>20*9", "99"};

  private static int wrong = 0;
  private static int compared = 0;

  private WheatCountsThoughtTest() {
  }

  /** An estate as it is told, to be made as often as it is asked for. */
  private static final class Plan {
    int cells;
    int hedges;
    int fog;
    String sight;
    String theft;
    int hours;
    int[] grains;
    int[] weeds;
    final List<int[]> people = new ArrayList<>();

    Plan(Random random) {
      cells = 3 + random.nextInt(random.nextInt(4) == 0 ? 8 : 4);
      hedges = random.nextInt(3) == 0 ? random.nextInt(1 << cells - 1) : 0;
      fog = random.nextInt(10);
      sight = SIGHTS[random.nextInt(SIGHTS.length)];
      theft = THEFTS[random.nextInt(THEFTS.length)];
      hours = random.nextInt(4);
      grains = new int[cells];
      weeds = new int[cells];
      int most = random.nextInt(3) == 0 ? 100 : 6;
      for (int k = 0; k < cells; k++) {
        grains[k] = random.nextInt(most);
        weeds[k] = random.nextInt(4) == 0 ? random.nextInt(6) : 0;
      }
      for (int p = random.nextInt(random.nextInt(3) == 0 ? 9 : 5); p > 0; p--) {
        people.add(new int[] {random.nextInt(70), random.nextInt(cells), random.nextInt(3) - 1});
      }
    }

    /** The estate with those of the PEOPLE that a set has. */
    WheatCounts made(int set) {
      WheatCounts x = new WheatCounts();
      x.field(cells);
      x.lay(0, hedges);
      x.lay(2, fog);
      give(x, 0, sight);
      give(x, 1, theft);
      // HOURS without PEOPLE ahead of all else let HOUR alone go on
      if (hours > 0) {
        x.hours(hours);
      }
      for (int k = 0; k < cells; k++) {
        x.sow(k, 0, grains[k]);
        x.sow(k, 1, weeds[k]);
      }
      for (int p = 0; p < people.size(); p++) {
        if ((set >> p & 1) != 0) {
          int number = x.person(people.get(p)[0], people.get(p)[1]);
          x.lead(number, 1, people.get(p)[2]);
        }
      }
      return x;
    }

    WheatCounts made() {
      return made(all());
    }

    int all() {
      return (1 << people.size()) - 1;
    }

    private static void give(WheatCounts x, int use, String signs) {
      for (int i = 0; i < signs.length(); i++) {
        x.feed(signs.charAt(i), 1);
      }
      if (!signs.isEmpty() && x.text(use) != 1) {
        throw new IllegalStateException(signs + " is no TEXT");
      }
    }
  }

  public static void main(String[] args) {
    Random random = new Random(20261120);
    for (int run = 0; run < ESTATES; run++) {
      Plan plan = new Plan(random);
      String where = "estate " + run + ": ";
      behind(where, plan, random.nextInt(51));
      full(where, plan, random.nextInt(200));
      gains(where, plan, random.nextInt(51));
      seen(where, plan);
      hide(where, plan);
      odds(where, plan);
      sums(where, plan, random.nextInt(60));
      looked(where, plan, random);
      if (plan.people.size() <= 4 || run % 10 == 0) {
        leads(where, plan, random);
      }
      check(where, plan, random);
    }
    System.out.println(compared + " thoughts were compared with what is then, " + wrong + " are not so");
    if (wrong > 0) {
      System.exit(1);
    }
  }

  private static void behind(String where, Plan plan, int n) {
    WheatCounts thought = plan.made();
    WheatCounts done = plan.made();
    if (n > 0) {
      done.hours(n);
    }
    for (int k = 0; k < plan.cells; k++) {
      same(where + "then(" + n + ", " + k + ")", thought.then(n, k), done.ofCell(k, 0));
    }
    same(where + "then(" + n + ", -1)", thought.then(n, -1), done.count(6));
    same(where + "HOUR behind then", thought.count(2), plan.hours);
  }

  private static void full(String where, Plan plan, int v) {
    WheatCounts done = plan.made();
    int due = done.count(7) >= v ? 0 : NONE;
    for (int n = 1; n <= 50 && due == NONE; n++) {
      due = done.hours(1) >= v ? n : NONE;
    }
    same(where + "full(" + v + ")", plan.made().full(v), due);
  }

  private static void gains(String where, Plan plan, int n) {
    for (int p = 0; p < plan.people.size(); p++) {
      WheatCounts with = plan.made();
      WheatCounts without = plan.made(plan.all() & ~(1 << p));
      if (n > 0) {
        with.hours(n);
        without.hours(n);
      }
      same(where + "gains(" + p + ", " + n + ")", plan.made().gains(p, n), with.count(7) - without.count(7));
    }
  }

  private static void seen(String where, Plan plan) {
    WheatCounts x = plan.made();
    int best = NONE;
    for (int set = 0; set <= plan.all(); set++) {
      int seen = 0;
      for (int p = 0; p < plan.people.size(); p++) {
        seen |= (set >> p & 1) != 0 ? x.ofPerson(p, 7) : 0;
      }
      if (seen == (1 << plan.cells) - 1 && (best < 0 || Integer.bitCount(set) < Integer.bitCount(best))) {
        best = set;
      }
      if (set % 32 == 31) {
        x = plan.made();
      }
    }
    same(where + "watch()", plan.made().watch(), best);
  }

  private static void hide(String where, Plan plan) {
    int[] best = new int[plan.cells];
    Arrays.fill(best, NONE);
    WheatCounts x = plan.made();
    for (int set = 0; set < 1 << plan.cells - 1; set++) {
      if (set % 16 == 15) {
        x = plan.made();
      }
      x.lay(0, plan.hedges | set);
      for (int k = 0; k < plan.cells; k++) {
        if (x.ofCell(k, 2) == 0 && (best[k] < 0 || Integer.bitCount(set) < Integer.bitCount(best[k]))) {
          best[k] = set;
        }
      }
    }
    for (int k = 0; k < plan.cells; k++) {
      same(where + "hide(" + k + ")", plan.made().hide(k), best[k]);
    }
  }

  private static void odds(String where, Plan plan) {
    WheatCounts asked = plan.made();
    WheatCounts done = plan.made();
    for (int k = 0; k < plan.cells; k++) {
      int seen = 0;
      for (int fog = 0; fog < 10; fog++) {
        done.lay(2, fog);
        seen += done.ofCell(k, 2) != 0 ? 1 : 0;
      }
      int above = asked.odds(k, 0);
      int below = asked.odds(k, 1);
      same(where + "odds(" + k + ", ..)", above * 10, seen * below);
      same(where + "odds(" + k + ", ..) in lowest terms", divisor(above, below), 1);
    }
  }

  private static int divisor(int a, int b) {
    return b == 0 ? a : divisor(b, a % b);
  }

  private static void sums(String where, Plan plan, int v) {
    int many = 0;
    int least = NONE;
    for (int set = 0; set < 1 << plan.cells; set++) {
      int sum = 0;
      for (int k = 0; k < plan.cells; k++) {
        sum += (set >> k & 1) != 0 ? plan.grains[k] : 0;
      }
      many += sum == v ? 1 : 0;
      least = sum == v && least < 0 ? set : least;
    }
    same(where + "sums(" + v + ", 0)", plan.made().sums(v, 0), many);
    same(where + "sums(" + v + ", 1)", plan.made().sums(v, 1), least);
  }

  /** What one set makes grow is put in a SHEET; then all sets that make grow as much are counted. */
  private static void looked(String where, Plan plan, Random random) {
    int[] told = growth(plan, random.nextInt(plan.all() + 1));
    int many = 0;
    int least = NONE;
    for (int set = 0; set <= plan.all(); set++) {
      if (Arrays.equals(growth(plan, set), told)) {
        many++;
        least = least < 0 ? set : least;
      }
    }
    WheatCounts x = plan.made();
    x.sheet(2, 16, plan.cells);
    for (int k = 0; k < plan.cells; k++) {
      x.put(2, k, told[k]);
    }
    same(where + "looked(2, 0)", x.looked(2, 0), many);
    same(where + "looked(2, 1)", x.looked(2, 1), least);
  }

  private static int[] growth(Plan plan, int set) {
    WheatCounts x = plan.made(set);
    Plan.give(x, 1, "0");
    for (int k = 0; k < plan.cells; k++) {
      x.sow(k, 1, 0);
    }
    x.hours(1);
    int[] more = new int[plan.cells];
    for (int k = 0; k < plan.cells; k++) {
      more[k] = x.ofCell(k, 0) - plan.grains[k];
    }
    return more;
  }

  private static void leads(String where, Plan plan, Random random) {
    int cell = random.nextInt(plan.cells);
    int n = random.nextInt(4);
    int v = plan.grains[cell] + random.nextInt(4 * n + 2);
    int[] row = {-1, -1, -1, -1};
    int moved = fewestLed(plan, cell, v, n, row);
    WheatCounts x = plan.made();
    String call = where + "leads(" + cell + ", " + v + ", " + n + ", ";
    same(call + "-1)", x.leads(cell, v, n, -1), moved);
    for (int i = 0; i < 4; i++) {
      same(call + i + ")", x.leads(cell, v, n, i), moved < 0 ? NONE : row[i]);
    }
  }

  private static int fewestLed(Plan plan, int cell, int v, int n, int[] row) {
    if (behindLed(plan, new int[0], cell, n) >= v) {
      return 0;
    }
    List<int[]> rows = new ArrayList<>();
    for (int a = 0; a < plan.people.size(); a++) {
      for (int there = 0; there < plan.cells; there++) {
        if (there != plan.people.get(a)[1]) {
          rows.add(new int[] {a, there});
        }
      }
    }
    int ones = rows.size();
    for (int i = 0; i < ones; i++) {
      for (int j = 0; j < ones; j++) {
        int[] one = rows.get(i);
        int[] other = rows.get(j);
        if (one[0] < other[0]) {
          rows.add(new int[] {one[0], one[1], other[0], other[1]});
        }
      }
    }
    for (int[] led : rows) {
      if (behindLed(plan, led, cell, n) >= v) {
        System.arraycopy(led, 0, row, 0, led.length);
        return led.length / 2;
      }
    }
    return NONE;
  }

  private static int behindLed(Plan plan, int[] led, int cell, int n) {
    WheatCounts x = plan.made();
    for (int i = 0; i < led.length; i += 2) {
      x.lead(led[i], 0, led[i + 1]);
    }
    if (n > 0) {
      x.hours(n);
    }
    return x.ofCell(cell, 0);
  }

  private static void check(String where, Plan plan, Random random) {
    WheatCounts thought = plan.made();
    WheatCounts done = plan.made();
    int most = random.nextInt(21);
    int place = random.nextInt(21);
    for (int i = 0; i < most; i++) {
      thought.tell(done.hours(1) + (i == place ? 1 : 0));
    }
    same(where + "check()", thought.check(), place < most ? 1 + place : 0);
    same(where + "waiting behind check()", thought.count(9), 0);
    same(where + "all together behind check()", thought.count(7), plan.made().count(7));
  }

  private static void same(String call, int got, int want) {
    compared++;
    if (got != want) {
      wrong++;
      if (wrong <= 50) {
        System.out.println(call + " answers " + got + ", what is then is " + want);
      }
    }
  }
}
