import java.lang.reflect.Method;
import java.util.ArrayList;
import java.util.Collections;
import java.util.HashMap;
import java.util.List;
import java.util.Map;
import java.util.Random;

/**
 * Compares long runs of calls, drawn from fixed seeds, with a model that is written straight from the
 * document, in the slowest and plainest way: real classes for KINDS, whole estates for all that is only thought.
 */
public final class WheatCountsModelTest {
  private static final int RUNS = 160;
  private static final int CALLS = 512;

  public static void main(String[] args) throws Exception {
    Map<String, Method> real = methodsOf(WheatCounts.class);
    Map<String, Method> modelled = methodsOf(Model.class);
    Map<String, int[]> tally = new HashMap<>();
    for (int run = 0; run < RUNS; run++) {
      WheatCounts x = new WheatCounts();
      Model model = new Model();
      Drawer drawer = new Drawer(new Random(run), run % 4, run % 16 == 13, model);
      List<String> told = new ArrayList<>();
      for (int i = 0; i < CALLS; i++) {
        drawer.draw(i);
        Object[] asked = drawer.arguments();
        int got = (Integer) real.get(drawer.name).invoke(x, asked);
        int due = (Integer) modelled.get(drawer.name).invoke(model, asked);
        told.add("  " + drawer.name + java.util.Arrays.toString(asked) + " answered " + got);
        if (got != due) {
          int from = Math.max(0, told.size() - 40);
          System.out.println("run " + run + ", call " + i + ":");
          System.out.println(String.join("\n", told.subList(from, told.size())) + ", due is " + due);
          System.exit(1);
        }
        tally.computeIfAbsent(drawer.name, k -> new int[2])[due < Model.LOW ? 1 : 0]++;
      }
    }
    for (String name : real.keySet()) {
      if (!tally.containsKey(name) || tally.get(name)[0] == 0) {
        System.out.println(name + " was never called, or never without an ERROR");
        System.exit(1);
      }
    }
    if (args.length > 1) {
      tally.forEach((name, two) -> System.out.println(name + " " + two[0] + " " + two[1]));
    }
    System.out.println(RUNS + " runs of " + CALLS + " calls answer as the model does");
  }

  private static Map<String, Method> methodsOf(Class<?> type) {
    Map<String, Method> all = new HashMap<>();
    for (Method method : type.getDeclaredMethods()) {
      if (java.lang.reflect.Modifier.isPublic(method.getModifiers())) {
        all.put(method.getName(), method);
      }
    }
    return all;
  }

  /** Draws calls; most are allowed, some stand at an edge or beside it. */
  private static final class Drawer {
    private static final String[] NAMES = {
      "field", "sow", "ofCell", "lay", "person", "ofPerson", "lead", "become", "as", "feed", "text", "law", "hours",
      "loose", "evening", "hail", "then", "full", "leads", "sums", "looked", "watch", "hide", "gains", "odds", "seed",
      "voice", "trace", "sheet", "put", "move", "weeds", "judge", "image", "restore", "tell", "check", "count", "told",
      "sow", "lay", "lead", "put", "put", "put", "sheet", "looked", "leads", "evening"};
    private static final int FIRST_CALLS = 14;
    private static final int LATE_CALLS = 199;
    private static final String SIGNS = "mfhg0123456789+-*/%<=>&|!()x \u00e9";
    private final Random random;
    private final int mood;
    private final boolean late;
    private final Model model;
    private String text = "";
    String name;
    private long[] a;

    /** A late one comes to HOURS near 9999 first, so that what is only thought goes beyond. */
    Drawer(Random random, int mood, boolean late, Model model) {
      this.random = random;
      this.mood = mood;
      this.late = late;
      this.model = model;
    }

    Object[] arguments() {
      Object[] all = new Object[a.length];
      for (int i = 0; i < a.length; i++) {
        all[i] = i == 0 && name.equals("feed") ? (Object) a[i] : (Object) (int) a[i];
      }
      return all;
    }

    private boolean oneIn(int n) {
      return random.nextInt(n) == 0;
    }

    private int within(int least, int most) {
      return least + random.nextInt(Math.max(1, most - least + 1));
    }

    private int about(int least, int most) {
      switch (random.nextInt(50)) {
        case 0: return least - 1;
        case 1: return most + 1;
        case 2: return random.nextInt();
        case 3: return random.nextBoolean() ? Integer.MIN_VALUE : Integer.MAX_VALUE;
        case 4: return least;
        case 5: return most;
        default: return within(least, most);
      }
    }

    private int aboutGrains() {
      switch (random.nextInt(8)) {
        case 0: return about(0, 99999);
        case 1: return about(99980, 99999);
        case 2: return about(0, 300);
        default: return about(0, 40);
      }
    }

    private int aboutNumber() {
      return oneIn(3) ? random.nextInt() : within(-9, 12);
    }

    private void call(String itsName, long... itsArguments) {
      name = itsName;
      a = itsArguments;
    }

    void draw(int i) {
      if (i < FIRST_CALLS && mood != 3 && !oneIn(3)) {
        if (i == 0) {
          call("field", about(3, 10));
        } else {
          call("person", about(0, 69), about(0, model.n - 1));
        }
      } else if (late && i < FIRST_CALLS + LATE_CALLS) {
        call("hours", 50);
      } else if (!text.isEmpty()) {
        goOnWithText();
      } else if (oneIn(mood == 1 ? 10 : 25)) {
        text = someText();
        goOnWithText();
      } else {
        drawAny();
      }
    }

    // ---- texts; the last sign tells the use

    private String someText() {
      int use = random.nextInt(2);
      String made = grown(use == 0 ? "mfh" : "mgh", 4);
      if (oneIn(3) && !made.isEmpty()) {
        int i = random.nextInt(made.length());
        made = made.substring(0, i) + SIGNS.charAt(random.nextInt(SIGNS.length())) + made.substring(i + random.nextInt(2));
      }
      if (oneIn(8)) {
        StringBuilder built = new StringBuilder();
        for (int k = random.nextInt(14); k > 0; k--) {
          built.append(oneIn(2) ? "!(" .charAt(random.nextInt(2)) : SIGNS.charAt(random.nextInt(SIGNS.length())));
        }
        made = built.toString();
      }
      if (made.length() > 50 && !oneIn(4)) {
        made = made.substring(0, 50);
      }
      return made + (char) (use + 1);
    }

    private String grown(String names, int depth) {
      if (late && oneIn(12)) {
        return "(h>" + within(9940, 9999) + ")";
      }
      if (depth <= 0 || oneIn(4)) {
        return random.nextBoolean() ? "" + names.charAt(random.nextInt(3)) : "" + random.nextInt(oneIn(4) ? 12000 : 12);
      }
      switch (random.nextInt(7)) {
        case 0: return "!" + grown(names, depth - 2);
        case 1: return "(" + grown(names, depth - 1) + ")";
        case 2: return "(" + grown(names, depth - 1) + ")" + "/%<=>-".charAt(random.nextInt(6)) + grown(names, depth - 1);
        default: return grown(names, depth - 1) + "+-*/%<=>&|+-*/%".charAt(random.nextInt(15)) + grown(names, depth - 1);
      }
    }

    private void goOnWithText() {
      int left = text.length() - 1;
      if (left == 0) {
        int use = text.charAt(0) - 1;
        call("text", oneIn(20) ? about(0, 1) : use);
        text = "";
        return;
      }
      int n = Math.min(left, within(1, 8));
      long word = random.nextLong();
      for (int i = 0; i < n; i++) {
        word = word & ~(255L << 8 * i) | (long) text.charAt(i) << 8 * i;
      }
      call("feed", word, n);
      text = text.substring(n);
    }

    private void drawAny() {
      String next = NAMES[random.nextInt(NAMES.length)];
      int n = model.n;
      int cell = about(0, n - 1);
      int person = about(0, model.people.size() - 1);
      int sheet = about(0, 3);
      switch (next) {
        case "field": call(next, about(3, 10)); break;
        case "sow": drawSow(cell); break;
        case "ofCell": call(next, cell, about(0, 3)); break;
        case "lay": drawLay(n); break;
        case "person": call(next, about(0, 69), cell); break;
        case "ofPerson": call(next, person, about(0, 7)); break;
        case "lead": int what = about(0, 1); call(next, person, what, what == 0 ? cell : about(-1, 1)); break;
        case "become": call(next, person, about(0, 69)); break;
        case "as": call(next, person, about(0, 6)); break;
        case "feed": call(next, random.nextLong(), about(1, 8)); break;
        case "text": call(next, about(0, 1)); break;
        case "law": call(next, about(0, 1), aboutNumber(), aboutNumber(), aboutNumber()); break;
        case "hours": call(next, about(1, mood == 2 ? 50 : 6)); break;
        case "loose": call(next, about(1, mood == 2 ? 40 : 6)); break;
        case "hail": call(next, about(2, 9)); break;
        case "then": call(next, about(0, 50), about(-1, n - 1)); break;
        case "full": call(next, oneIn(2) ? about(0, 999999) : model.all() + within(-9, 90)); break;
        case "leads": drawLeads(cell); break;
        case "sums": call(next, oneIn(2) ? model.sum(random.nextInt(1 << n)) : oneIn(2) ? about(0, 999999) : within(0, 60), about(0, 1)); break;
        case "looked": call(next, sheet, about(0, 1)); break;
        case "hide": call(next, cell); break;
        case "gains": call(next, person, about(0, 50)); break;
        case "odds": call(next, cell, about(0, 1)); break;
        case "seed": call(next, random.nextInt()); break;
        case "voice": call(next, person, about(0, 3), aboutNumber()); break;
        case "trace": call(next, oneIn(2) ? about(0, 40) : about(0, 6)); break;
        case "put": drawPut(sheet); break;
        case "sheet": drawSheet(sheet); break;
        case "move": call(next, sheet, about(0, 5), about(0, 3), about(0, 5), about(0, 5)); break;
        case "weeds": call(next, sheet); break;
        case "judge": call(next, sheet); break;
        case "tell": drawTell(); break;
        case "count": call(next, about(0, 11)); break;
        case "told": call(next, about(1, 5)); break;
        default: call(next); break;
      }
    }

    private void drawSow(int cell) {
      int what = about(0, 1);
      call("sow", cell, what, what == 0 ? aboutGrains() : about(0, oneIn(4) ? 99 : 4));
    }

    private void drawLay(int n) {
      int what = about(0, 2);
      int v = what == 2 ? about(0, 9) : about(0, (1 << n - (what == 0 ? 1 : 0)) - 1);
      call("lay", what, what == 0 && oneIn(2) ? v & random.nextInt() : v);
    }

    private void drawLeads(int cell) {
      int now = cell >= 0 && cell < model.n ? model.grains[cell] : 0;
      call("leads", cell, oneIn(4) ? aboutGrains() : now + within(-3, 30), about(0, 3), about(-1, 3));
    }

    private void drawSheet(int sheet) {
      int bits = oneIn(12) ? about(0, 32) : new int[] {8, 16, 32, 8, 16, 32, 0}[random.nextInt(7)];
      call("sheet", sheet, bits, oneIn(3) ? about(0, 40) : model.n);
    }

    /** Many numbers are what GRAINS are, or would grow by some of the PEOPLE, so that judge and looked find some. */
    private void drawPut(int sheet) {
      int i = about(0, oneIn(4) ? 40 : model.n - 1);
      int v = oneIn(3) ? random.nextInt() : within(-2, oneIn(2) ? 4 : 300);
      if (i >= 0 && i < model.n && oneIn(2)) {
        v = oneIn(2) ? model.grains[i] : model.growth(random.nextInt(1 << model.people.size()), i);
      }
      call("put", sheet, i, v);
    }

    private void drawTell() {
      int v = oneIn(4) ? random.nextInt() : within(0, 600);
      if (oneIn(2)) {
        Model thought = model.copy();
        for (int i = 0; i <= model.waiting.size(); i++) {
          thought.hour();
        }
        v = thought.all();
      }
      call("tell", v);
    }
  }

  // ---- people, as classes that stand under one another

  private static class Looker {
    Model on;
    int number;
    int m;
    int at;
    int way;

    int kind() { return 0; }

    int sight(int fog) { return on.law(0, m, fog, on.h); }

    int counts() { return 2; }

    int takes() { return 0; }

    boolean sees(int cell, int fog) {
      for (int k = Math.min(cell, at); k < Math.max(cell, at); k++) {
        if ((on.hedges >> k & 1) == 1) {
          return false;
        }
      }
      return Math.abs(cell - at) <= sight(fog);
    }

    int looks(int x) { on.trace.add(10); return x + number; }

    int adds(int x) { on.trace.add(11); return looks(x) * 2; }

    int glances(int x) { on.trace.add(12); return x - m; }

    int proves(int x) { on.trace.add(13); int first = adds(x); return first ^ glances(x); }
  }

  private static class Lover extends Looker {
    @Override int kind() { return 1; }

    @Override int counts() { return 4; }

    @Override int looks(int x) { on.trace.add(20); return super.looks(x) * 3; }
  }

  private static class Scarecrow extends Looker {
    @Override int kind() { return 2; }

    @Override int sight(int fog) { return super.sight(fog) / 2; }

    @Override int counts() { return 1; }

    @Override int adds(int x) { on.trace.add(30); int first = super.adds(x); return first - glances(1); }
  }

  private static class Thief extends Looker {
    @Override int kind() { return 3; }

    @Override int counts() { return 0; }

    @Override int takes() { return on.law(1, m, on.grains[at], on.h); }

    @Override int glances(int x) { on.trace.add(40); return -super.glances(x); }
  }

  private static final class Bride extends Lover {
    @Override int kind() { return 4; }

    @Override int sight(int fog) { return super.sight(fog) + 1; }

    @Override int proves(int x) { on.trace.add(50); int first = super.proves(x); return first - looks(2); }
  }

  private static final class Mirror extends Scarecrow {
    @Override int kind() { return 5; }

    @Override int counts() { return super.counts() + m % 2; }

    @Override boolean sees(int cell, int fog) { return super.sees(cell, fog) || super.sees(on.n - 1 - cell, fog); }

    @Override int adds(int x) { on.trace.add(60); return super.adds(x + 1); }
  }

  private static final class Steward extends Thief {
    @Override int kind() { return 6; }

    @Override int sight(int fog) { return super.sight(fog) + m % 3; }

    @Override int counts() { return 2 - super.counts(); }

    @Override int takes() { return super.takes() / 2; }

    @Override int glances(int x) { on.trace.add(70); return super.glances(x) ^ number; }

    @Override int proves(int x) { on.trace.add(71); int first = adds(x); return first - super.proves(x); }
  }

  // ---- texts, read by going down the rules

  private static final class Fault extends Exception {
    private static final long serialVersionUID = 1L;
    final int place;

    Fault(int place) {
      this.place = place;
    }
  }

  /** Reads and works out at once; what the names stand for is told before. */
  private static final class Reading {
    private final List<Integer> bytes;
    private final String names;
    private final int[] values;
    private int place = 0;
    private int open = 0;

    Reading(List<Integer> bytes, String names, int... values) {
      this.bytes = bytes;
      this.names = names;
      this.values = values;
    }

    int whole() throws Fault {
      int v = t();
      if (place < bytes.size()) {
        throw new Fault(place);
      }
      return v;
    }

    private boolean next(String signs) {
      return place < bytes.size() && signs.indexOf((char) (int) bytes.get(place)) >= 0;
    }

    private char take() {
      return (char) (int) bytes.get(place++);
    }

    private int t() throws Fault {
      int v = a();
      while (next("|")) {
        take();
        int w = a();
        v = v != 0 | w != 0 ? 1 : 0;
      }
      return v;
    }

    private int a() throws Fault {
      int v = b();
      while (next("&")) {
        take();
        int w = b();
        v = v != 0 & w != 0 ? 1 : 0;
      }
      return v;
    }

    private int b() throws Fault {
      int v = s();
      if (!next("<=>")) {
        return v;
      }
      char sign = take();
      int w = s();
      return (sign == '<' ? v < w : sign == '=' ? v == w : v > w) ? 1 : 0;
    }

    private int s() throws Fault {
      int v = p();
      while (next("+-")) {
        v = take() == '+' ? v + p() : v - p();
      }
      return v;
    }

    private int p() throws Fault {
      int v = q();
      while (next("*/%")) {
        char sign = take();
        int w = q();
        v = sign == '*' ? v * w : w == 0 ? 0 : sign == '/' ? v / w : v % w;
      }
      return v;
    }

    private int q() throws Fault {
      if (next("0123456789")) {
        int v = 0;
        for (int digits = 0; digits < 4 && next("0123456789"); digits++) {
          v = v * 10 + take() - '0';
        }
        return v;
      }
      if (next(names)) {
        return values[names.indexOf(take())];
      }
      if (!next("!(") || open == 5) {
        throw new Fault(place);
      }
      open++;
      int v;
      if (take() == '!') {
        v = q() == 0 ? 1 : 0;
      } else {
        v = t();
        if (!next(")")) {
          throw new Fault(place);
        }
        take();
      }
      open--;
      return v;
    }
  }

  // ---- the estate

  private static final class Model {
    static final int LOW = -1000000000;
    private static final String[] NAMES = {"mfh", "mgh"};
    int n = 6;
    int[] grains = new int[6];
    int[] weedy = new int[6];
    int hedges;
    int lean;
    int fog;
    int h;
    int stolen;
    List<Looker> people = new ArrayList<>();
    List<Integer> tape = new ArrayList<>();
    List<List<Integer>> texts = new ArrayList<>(List.of(new ArrayList<>(), new ArrayList<>()));
    List<Integer> waiting = new ArrayList<>();
    int z = 1;
    List<Integer> trace = new ArrayList<>();
    private final List<Object> sheets = new ArrayList<>(Collections.nCopies(4, null));
    private final int[] errors = new int[6];
    private Model kept;
    private int timesKept;

    private int error(int k) {
      errors[k]++;
      return LOW - k;
    }

    private static boolean in(int v, int least, int most) {
      return least <= v && v <= most;
    }

    private boolean cell(int c) { return in(c, 0, n - 1); }

    private boolean one(int p) { return in(p, 0, people.size() - 1); }

    private Looker made(int km, int at, int way, int number) {
      Looker one;
      switch (km / 10) {
        case 0: one = new Looker(); break;
        case 1: one = new Lover(); break;
        case 2: one = new Scarecrow(); break;
        case 3: one = new Thief(); break;
        case 4: one = new Bride(); break;
        case 5: one = new Mirror(); break;
        default: one = new Steward(); break;
      }
      one.on = this;
      one.number = number;
      one.m = km % 10;
      one.at = at;
      one.way = way;
      return one;
    }

    void takeAll(Model other) {
      n = other.n;
      grains = other.grains.clone();
      weedy = other.weedy.clone();
      hedges = other.hedges;
      lean = other.lean;
      fog = other.fog;
      h = other.h;
      stolen = other.stolen;
      people = new ArrayList<>();
      for (Looker p : other.people) {
        people.add(made(10 * p.kind() + p.m, p.at, p.way, p.number));
      }
      tape = new ArrayList<>(other.tape);
      texts = new ArrayList<>(other.texts);
      waiting = new ArrayList<>(other.waiting);
      z = other.z;
    }

    Model copy() {
      Model other = new Model();
      other.takeAll(this);
      return other;
    }

    Model behind(int hours) {
      Model other = copy();
      for (int i = 0; i < hours; i++) {
        other.hour();
      }
      return other;
    }

    void hour() {
      int[] more = new int[n];
      for (int c = 0; c < n; c++) {
        more[c] = growth((1 << people.size()) - 1, c) - weedy[c];
      }
      for (int c = 0; c < n; c++) {
        grains[c] = Math.min(99999, Math.max(0, grains[c] + more[c]));
      }
      for (Looker p : people) {
        int taken = Math.min(grains[p.at], p.takes());
        grains[p.at] -= taken;
        stolen = Math.min(99999, stolen + taken);
        if (cell(p.at + p.way)) {
          p.at += p.way;
        } else {
          p.way = -p.way;
        }
      }
      h++;
    }

    int growth(int set, int c) {
      int half = 0;
      for (int p = 0; p < people.size(); p++) {
        if ((set >> p & 1) == 1 && people.get(p).sees(c, fog)) {
          half += people.get(p).counts();
        }
      }
      return half / 2;
    }

    int sum(int set) {
      int sum = 0;
      for (int c = 0; c < n; c++) {
        sum += (set >> c & 1) * grains[c];
      }
      return sum;
    }

    int all() {
      return sum((1 << n) - 1);
    }

    private boolean seen(int c, int inFog) {
      for (Looker p : people) {
        if (p.sees(c, inFog)) {
          return true;
        }
      }
      return false;
    }

    private static int fewest(List<Integer> sets) {
      int best = -1;
      for (int set : sets) {
        if (best < 0 || Integer.bitCount(set) < Integer.bitCount(best)
            || Integer.bitCount(set) == Integer.bitCount(best) && set < best) {
          best = set;
        }
      }
      return best;
    }

    // ---- the face

    public int field(int v) {
      if (!in(v, 3, 10)) return error(1);
      if (!people.isEmpty()) return error(3);
      int was = n;
      n = v;
      grains = new int[n];
      weedy = new int[n];
      hedges = 0;
      lean = 0;
      return was;
    }

    public int sow(int c, int what, int v) {
      if (!cell(c) || !in(what, 0, 1) || !in(v, 0, what == 0 ? 99999 : 99)) return error(1);
      int[] row = what == 0 ? grains : weedy;
      int was = row[c];
      row[c] = v;
      return was;
    }

    public int ofCell(int c, int what) {
      if (!cell(c) || !in(what, 0, 3)) return error(1);
      if (what == 0) return grains[c];
      if (what == 1) return weedy[c];
      int set = 0;
      for (int p = 0; p < people.size(); p++) {
        if (what == 2 ? people.get(p).sees(c, fog) : people.get(p).at == c) {
          set += 1 << p;
        }
      }
      return set;
    }

    public int lay(int what, int v) {
      if (!in(what, 0, 2) || v < 0 || (what == 2 ? v > 9 : v >= 1 << (what == 0 ? n - 1 : n))) return error(1);
      int was = what == 0 ? hedges : what == 1 ? lean : fog;
      if (what == 0) hedges = v;
      if (what == 1) lean = v;
      if (what == 2) fog = v;
      return was;
    }

    public int person(int km, int c) {
      if (!in(km, 0, 69) || !cell(c)) return error(1);
      if (people.size() == 8) return error(4);
      people.add(made(km, c, 0, people.size()));
      return people.size() - 1;
    }

    public int ofPerson(int p, int what) {
      if (!one(p) || !in(what, 0, 7)) return error(1);
      Looker it = people.get(p);
      int set = 0;
      for (int c = 0; c < n; c++) {
        set += it.sees(c, fog) ? 1 << c : 0;
      }
      return new int[] {it.kind(), it.m, it.at, it.way, it.sight(fog), it.counts(), it.takes(), set}[what];
    }

    public int lead(int p, int what, int v) {
      if (!one(p) || !in(what, 0, 1) || (what == 0 ? !cell(v) : !in(v, -1, 1))) return error(1);
      Looker it = people.get(p);
      int was = what == 0 ? it.at : it.way;
      if (what == 0) it.at = v; else it.way = v;
      return was;
    }

    public int become(int p, int km) {
      if (!one(p) || !in(km, 0, 69)) return error(1);
      Looker was = people.get(p);
      people.set(p, made(km, was.at, was.way, p));
      return was.kind();
    }

    public int as(int p, int kind) {
      if (!one(p) || !in(kind, 0, 6)) return error(1);
      Looker it = people.get(p);
      boolean[] is = {true, it instanceof Lover, it instanceof Scarecrow, it instanceof Thief, it instanceof Bride,
        it instanceof Mirror, it instanceof Steward};
      return is[kind] ? it.m : error(5);
    }

    public int feed(long word, int many) {
      if (!in(many, 1, 8)) return error(1);
      if (tape.size() + many > 50) return error(4);
      for (int i = 0; i < many; i++) {
        tape.add((int) (word & 255));
        word >>= 8;
      }
      return tape.size();
    }

    public int text(int use) {
      if (!in(use, 0, 1)) return error(1);
      List<Integer> read = tape;
      tape = new ArrayList<>();
      try {
        new Reading(read, NAMES[use], 0, 0, 0).whole();
      } catch (Fault fault) {
        return -10 - fault.place;
      }
      texts.set(use, read);
      return 1;
    }

    public int law(int use, int a, int b, int c) {
      if (!in(use, 0, 1)) return error(1);
      int v = use == 0 ? 3 - b / 3 : a;
      if (!texts.get(use).isEmpty()) {
        try {
          v = new Reading(texts.get(use), NAMES[use], a, b, c).whole();
        } catch (Fault fault) {
          throw new IllegalStateException(fault);
        }
      }
      return Math.max(0, Math.min(use == 0 ? 9 : 99, v));
    }

    public int hours(int v) {
      if (!in(v, 1, 50)) return error(1);
      if (h + v > 9999) return error(3);
      for (int i = 0; i < v; i++) {
        hour();
      }
      return all();
    }

    private int draw() {
      z = (int) ((long) z * 1103515245L + 12345L);
      return (int) ((z & 0xffffffffL) / 256);
    }

    public int loose(int v) {
      if (!in(v, 1, 40)) return error(1);
      if (h + v > 9999) return error(3);
      for (int i = 0; i < v; i++) {
        if (!people.isEmpty()) {
          Looker it = people.get(draw() % people.size());
          it.way = draw() % 3 - 1;
        }
        hour();
      }
      return all();
    }

    public int evening() {
      for (int c = 0; c + 1 < n; c++) {
        if ((lean >> c & 1) == 1) {
          int given = grains[c] / 9 * 9;
          grains[c] -= given;
          grains[c + 1] = Math.min(99999, grains[c + 1] + given);
        }
      }
      return all();
    }

    public int hail(int v) {
      if (!in(v, 2, 9)) return error(1);
      for (int c = 0; c < n; c++) {
        grains[c] /= v;
      }
      return all();
    }

    public int then(int hours, int what) {
      if (!in(hours, 0, 50) || !in(what, -1, n - 1)) return error(1);
      Model then = behind(hours);
      return what == -1 ? then.stolen : then.grains[what];
    }

    public int full(int v) {
      if (!in(v, 0, 999999)) return error(1);
      for (int i = 0; i <= 50; i++) {
        if (behind(i).all() >= v) {
          return i;
        }
      }
      return error(2);
    }

    public int leads(int c, int v, int hours, int what) {
      if (!cell(c) || !in(v, 0, 99999) || !in(hours, 0, 3) || !in(what, -1, 3)) return error(1);
      int[] row = rowThatLeads(c, v, hours);
      if (row == null) return error(2);
      return what == -1 ? row.length / 2 : what < row.length ? row[what] : -1;
    }

    private int[] rowThatLeads(int c, int v, int hours) {
      if (behind(hours).grains[c] >= v) return new int[0];
      for (int a = 0; a < people.size(); a++) {
        for (int x = 0; x < n; x++) {
          if (enough(c, v, hours, a, x)) return new int[] {a, x};
        }
      }
      for (int a = 0; a < people.size(); a++) {
        for (int x = 0; x < n; x++) {
          for (int b = a + 1; b < people.size(); b++) {
            for (int y = 0; y < n; y++) {
              if (enough(c, v, hours, a, x, b, y)) return new int[] {a, x, b, y};
            }
          }
        }
      }
      return null;
    }

    private boolean enough(int c, int v, int hours, int... row) {
      Model other = copy();
      for (int i = 0; i < row.length; i += 2) {
        if (people.get(row[i]).at == row[i + 1]) {
          return false;
        }
        other.people.get(row[i]).at = row[i + 1];
      }
      for (int i = 0; i < hours; i++) {
        other.hour();
      }
      return other.grains[c] >= v;
    }

    private int manyOrLeast(int what, List<Integer> sets) {
      if (what == 0) return sets.size();
      return sets.isEmpty() ? error(2) : Collections.min(sets);
    }

    public int sums(int v, int what) {
      if (!in(v, 0, 999999) || !in(what, 0, 1)) return error(1);
      List<Integer> sets = new ArrayList<>();
      for (int set = 0; set < 1 << n; set++) {
        if (sum(set) == v) sets.add(set);
      }
      return manyOrLeast(what, sets);
    }

    public int looked(int s, int what) {
      if (!in(s, 0, 3) || !in(what, 0, 1)) return error(1);
      if (sheets.get(s) == null || sizeOf(s) != n) return error(2);
      List<Integer> sets = new ArrayList<>();
      for (int set = 0; set < 1 << people.size(); set++) {
        boolean so = true;
        for (int c = 0; c < n; c++) {
          so &= growth(set, c) == numberOf(s, c);
        }
        if (so) sets.add(set);
      }
      return manyOrLeast(what, sets);
    }

    public int watch() {
      List<Integer> sets = new ArrayList<>();
      for (int set = 0; set < 1 << people.size(); set++) {
        boolean all = true;
        for (int c = 0; c < n; c++) {
          all &= (ofCell(c, 2) & set) != 0;
        }
        if (all) sets.add(set);
      }
      return sets.isEmpty() ? error(2) : fewest(sets);
    }

    public int hide(int c) {
      if (!cell(c)) return error(1);
      List<Integer> sets = new ArrayList<>();
      for (int set = 0; set < 1 << n - 1; set++) {
        Model other = copy();
        other.hedges |= set;
        if (!other.seen(c, fog)) sets.add(set);
      }
      return sets.isEmpty() ? error(2) : fewest(sets);
    }

    public int gains(int p, int hours) {
      if (!one(p) || !in(hours, 0, 50)) return error(1);
      Model without = copy();
      without.people.remove(p);
      return behind(hours).all() - without.behind(hours).all();
    }

    public int odds(int c, int part) {
      if (!cell(c) || !in(part, 0, 1)) return error(1);
      int above = 0;
      for (int f = 0; f < 10; f++) {
        above += seen(c, f) ? 1 : 0;
      }
      int shared = java.math.BigInteger.valueOf(above).gcd(java.math.BigInteger.TEN).intValue();
      return (part == 0 ? above : 10) / shared;
    }

    public int seed(int v) {
      int was = z;
      z = v;
      return was;
    }

    public int voice(int p, int act, int x) {
      if (!one(p) || !in(act, 0, 3)) return error(1);
      trace.clear();
      Looker it = people.get(p);
      return act == 0 ? it.looks(x) : act == 1 ? it.adds(x) : act == 2 ? it.glances(x) : it.proves(x);
    }

    public int trace(int i) {
      return in(i, 0, Math.min(40, trace.size()) - 1) ? trace.get(i) : error(2);
    }

    private int sizeOf(int s) {
      return java.lang.reflect.Array.getLength(sheets.get(s));
    }

    private int numberOf(int s, int i) {
      return java.lang.reflect.Array.getInt(sheets.get(s), i);
    }

    public int sheet(int s, int bits, int many) {
      if (!in(s, 0, 3) || bits != 0 && bits != 8 && bits != 16 && bits != 32) return error(1);
      if (bits != 0 && many < 0) return error(3);
      if (bits != 0 && many > 40) return error(1);
      sheets.set(s, bits == 0 ? null : bits == 8 ? new byte[many] : bits == 16 ? (Object) new short[many] : new int[many]);
      return 1;
    }

    public int put(int s, int i, int v) {
      if (!in(s, 0, 3)) return error(1);
      if (sheets.get(s) == null) return error(2);
      if (!in(i, 0, sizeOf(s) - 1)) return error(1);
      Object row = sheets.get(s);
      if (row instanceof byte[]) ((byte[]) row)[i] = (byte) v;
      if (row instanceof short[]) ((short[]) row)[i] = (short) v;
      if (row instanceof int[]) ((int[]) row)[i] = v;
      return 1;
    }

    public int move(int s, int i, int other, int j, int many) {
      if (!in(s, 0, 3) || !in(other, 0, 3)) return error(1);
      if (sheets.get(s) == null || sheets.get(other) == null) return error(2);
      if (sheets.get(s).getClass() != sheets.get(other).getClass()) return error(5);
      try {
        System.arraycopy(sheets.get(s), i, sheets.get(other), j, many);
      } catch (IndexOutOfBoundsException e) {
        return error(1);
      }
      return many;
    }

    public int weeds(int s) {
      if (!in(s, 0, 3)) return error(1);
      if (sheets.get(s) == null) return error(2);
      int i = 0;
      while (i < n && i < sizeOf(s) && in(numberOf(s, i), 0, 99)) {
        weedy[i] = numberOf(s, i);
        i++;
      }
      return i;
    }

    public int judge(int s) {
      if (!in(s, 0, 3)) return error(1);
      if (sheets.get(s) == null) return error(2);
      for (int i = 0; i < Math.max(n, sizeOf(s)); i++) {
        if (i >= n || i >= sizeOf(s) || numberOf(s, i) != grains[i]) return i;
      }
      return -1;
    }

    public int image() {
      kept = copy();
      return ++timesKept;
    }

    public int restore() {
      if (kept == null) return error(2);
      takeAll(kept);
      return h;
    }

    public int tell(int v) {
      if (waiting.size() == 20) return error(4);
      waiting.add(v);
      return waiting.size();
    }

    public int check() {
      List<Integer> numbers = waiting;
      waiting = new ArrayList<>();
      for (int i = 0; i < numbers.size(); i++) {
        if (behind(i + 1).all() != numbers.get(i)) return 1 + i;
      }
      return 0;
    }

    public int count(int what) {
      if (!in(what, 0, 11)) return error(1);
      return new int[] {n, people.size(), h, hedges, lean, fog, stolen, all(), tape.size(), waiting.size(),
        Math.min(40, trace.size()), z}[what];
    }

    public int told(int k) {
      return in(k, 1, 5) ? errors[k] : error(1);
    }
  }
}
