import java.util.ArrayList;
import java.util.Arrays;
import java.util.HashMap;
import java.util.HashSet;
import java.util.List;
import java.util.Map;
import java.util.Set;

/**
 * TEXTS without a parser: the grammar of the document makes all short TEXTS of some signs, with what each gives. Every
 * tape of these signs must be a TEXT or have the FAULT that follows from them: the first byte with which none goes on.
 */
public final class WheatCountsTextsTest {
  private static final int MOST_CALLS = 512;
  private static final int MOST_OPEN = 5;
  /** What the NAMES m, g, h stand for, one row a trial. */
  private static final int[][] MEANT = {{0, 1, 7}, {9, 40000, 2}, {-3, 0, 5}};

  private static int wrong = 0;
  private static int tapes = 0;
  private static int worths = 0;
  private static WheatCounts x = new WheatCounts();
  private static int calls = 0;

  private WheatCountsTextsTest() {
  }

  /** A TEXT that the grammar makes, and what it gives in each trial. */
  private record Made(String signs, int[] worth) {
  }

  public static void main(String[] args) {
    new Trial("m<+!()", 6, 12).run();
    new Trial("gh|&=+*()", 5, 11).run();
    new Trial("m|&=*", 6, 7).run();
    new Trial("gh>-/", 6, 7).run();
    new Trial("!(m)", 8, 14).run();
    new Trial("10-%", 7, 8).run();
    new Trial("9(*)g", 5, 11).run();
    new Trial("h!/|>", 6, 12).run();
    new Trial(allBytesButDigits() + "7", 2, 5).run();
    System.out.println(tapes + " tapes and " + worths + " worths were asked, " + wrong + " are not as due");
    if (wrong > 0) {
      System.exit(1);
    }
  }

  private static String allBytesButDigits() {
    StringBuilder all = new StringBuilder();
    for (char c = 0; c < 256; c++) {
      if (c < '0' || c > '9') {
        all.append(c);
      }
    }
    return all.toString();
  }

  /** All tapes up to a length of some signs; TEXTS are made so long that each beginning can come to its end. */
  private static final class Trial {
    private final String signs;
    private final int longestTape;
    private final int longestText;
    private final Map<String, List<Made>> known = new HashMap<>();
    private final Map<String, int[]> texts = new HashMap<>();
    private final Set<String> beginnings = new HashSet<>();

    Trial(String signs, int longestTape, int longestText) {
      this.signs = signs;
      this.longestTape = longestTape;
      this.longestText = longestText;
    }

    void run() {
      for (int length = 1; length <= longestText; length++) {
        for (Made made : made('T', length, MOST_OPEN)) {
          if (length <= longestTape && texts.put(made.signs, made.worth) != null) {
            fault(made.signs, "is made twice: the grammar is read in two ways", 1, 2);
          }
          for (int i = 0; i <= Math.min(length, longestTape); i++) {
            beginnings.add(made.signs.substring(0, i));
          }
        }
      }
      ask("");
    }

    private void ask(String tape) {
      compare(tape, texts.get(tape), faultOf(tape));
      for (int i = 0; i < signs.length() && tape.length() < longestTape; i++) {
        ask(tape + signs.charAt(i));
      }
    }

    private int faultOf(String tape) {
      for (int i = 0; i < tape.length(); i++) {
        if (!beginnings.contains(tape.substring(0, i + 1))) {
          return i;
        }
      }
      return tape.length();
    }

    private List<Made> made(char what, int length, int open) {
      String key = what + "" + length + "/" + open;
      List<Made> all = known.get(key);
      if (all == null) {
        all = new ArrayList<>();
        switch (what) {
          case 'T' -> addJoined(all, length, open, 'T', "|", 'A');
          case 'A' -> addJoined(all, length, open, 'A', "&", 'B');
          case 'B' -> addJoined(all, length, open, 'S', "<=>", 'S');
          case 'S' -> addJoined(all, length, open, 'S', "+-", 'P');
          case 'P' -> addJoined(all, length, open, 'P', "*/%", 'Q');
          default -> addSingle(all, length, open);
        }
        if (what == 'T' || what == 'A' || what == 'S' || what == 'P') {
          all.addAll(made(what == 'T' ? 'A' : what == 'A' ? 'B' : what == 'S' ? 'P' : 'Q', length, open));
        } else if (what == 'B') {
          all.addAll(made('S', length, open));
        }
        known.put(key, all);
      }
      return all;
    }

    private void addJoined(List<Made> all, int length, int open, char left, String between, char right) {
      for (int i = 0; i < between.length(); i++) {
        char sign = between.charAt(i);
        for (int first = 1; signs.indexOf(sign) >= 0 && first < length - 1; first++) {
          for (Made a : made(left, first, open)) {
            for (Made b : made(right, length - 1 - first, open)) {
              all.add(new Made(a.signs + sign + b.signs, joined(a.worth, sign, b.worth)));
            }
          }
        }
      }
    }

    private void addSingle(List<Made> all, int length, int open) {
      for (int name = 0; name < 3 && length == 1; name++) {
        if (signs.indexOf("mgh".charAt(name)) >= 0) {
          int[] worth = new int[MEANT.length];
          for (int trial = 0; trial < worth.length; trial++) {
            worth[trial] = MEANT[trial][name];
          }
          all.add(new Made("mgh".substring(name, name + 1), worth));
        }
      }
      if (length <= 4) {
        addNumbers(all, "", length);
      }
      if (signs.indexOf('!') >= 0 && open > 0 && length > 1) {
        for (Made made : made('Q', length - 1, open - 1)) {
          all.add(new Made("!" + made.signs, Arrays.stream(made.worth).map(v -> v == 0 ? 1 : 0).toArray()));
        }
      }
      if (signs.indexOf('(') >= 0 && open > 0 && length > 2) {
        for (Made made : made('T', length - 2, open - 1)) {
          all.add(new Made("(" + made.signs + ")", made.worth));
        }
      }
    }

    private void addNumbers(List<Made> all, String begun, int length) {
      if (begun.length() == length) {
        int[] worth = new int[MEANT.length];
        Arrays.fill(worth, Integer.parseInt(begun));
        all.add(new Made(begun, worth));
        return;
      }
      for (char digit = '0'; digit <= '9'; digit++) {
        if (signs.indexOf(digit) >= 0) {
          addNumbers(all, begun + digit, length);
        }
      }
    }
  }

  private static int[] joined(int[] a, char sign, int[] b) {
    int[] worth = new int[a.length];
    for (int i = 0; i < worth.length; i++) {
      worth[i] = switch (sign) {
        case '|' -> a[i] != 0 | b[i] != 0 ? 1 : 0;
        case '&' -> a[i] != 0 & b[i] != 0 ? 1 : 0;
        case '<' -> a[i] < b[i] ? 1 : 0;
        case '=' -> a[i] == b[i] ? 1 : 0;
        case '>' -> a[i] > b[i] ? 1 : 0;
        case '+' -> a[i] + b[i];
        case '-' -> a[i] - b[i];
        case '*' -> a[i] * b[i];
        case '/' -> b[i] == 0 ? 0 : a[i] / b[i];
        default -> b[i] == 0 ? 0 : a[i] % b[i];
      };
    }
    return worth;
  }

  private static void compare(String tape, int[] worth, int fault) {
    tapes++;
    makeRoom(tape.length() + 1 + MEANT.length);
    for (int i = 0; i < tape.length(); i++) {
      x.feed(tape.charAt(i), 1);
    }
    int answer = x.text(1);
    if (answer != (worth != null ? 1 : -10 - fault)) {
      fault(tape, "text(1)", answer, worth != null ? 1 : -10 - fault);
    }
    for (int trial = 0; worth != null && trial < MEANT.length; trial++) {
      int[] meant = MEANT[trial];
      int due = Math.max(0, Math.min(99, worth[trial]));
      int given = x.law(1, meant[0], meant[1], meant[2]);
      worths++;
      if (given != due) {
        fault(tape, "law(1, " + meant[0] + ", " + meant[1] + ", " + meant[2] + ")", given, due);
      }
    }
  }

  private static void makeRoom(int more) {
    if (calls + more > MOST_CALLS) {
      x = new WheatCounts();
      calls = 0;
    }
    calls += more;
  }

  private static void fault(String tape, String call, int got, int want) {
    wrong++;
    if (wrong <= 50) {
      System.out.println("THE TAPE \"" + tape + "\": " + call + " answers " + got + ", due is " + want);
    }
  }
}
