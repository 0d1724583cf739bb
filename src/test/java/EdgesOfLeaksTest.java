/** Part 4 of the document's Terms and promises 20 to 25: each sentence that names an edge by a test of its own. */
public final class EdgesOfLeaksTest {
  private static final Book BOOK = new Book("EdgesOfLeaksTest");
  /** MEAL 0 costs 44; the shop is shut on DAYS 6 and 13. */
  private static final String CAMP = "meal(0, 1, 0, 1); set(2, 6); ";
  private static final String FAULTY = CAMP + "pad a!";
  private static final String CAN_NOT_BE = CAMP + "pad ab";
  private static final String BOTH = CAMP + "pad ba!";

  public static void main(String[] args) {
    seen();
    seenRefused();
    forget();
    leaksByV();
    leaksByActs();
    leaksBySights();
    leaksTold();
    leaksRefused();
    where();
    weigh();
    weighRefused();
    gustDays();
    gustWinds();
    gustChance();
    gustMean();
    gustRefused();
    BOOK.close();
  }

  private static void seen() {
    BOOK.words("SIGHTS, 8 at most");
    StringBuilder steps = new StringBuilder("told(7) = 0");
    for (int i = 1; i <= 8; i++) {
      steps.append("; seen(0, 4) = " + i + "; told(7) = " + i);
    }
    BOOK.run(steps + "; seen(0, 4) = FULL; told(7) = 8; forget() = 8; told(7) = 0; seen(0, 4) = 1");
    BOOK.words("behind so many ACTS (0 to 60) of the PLAN on the PAD");
    BOOK.bounds("", "seen(?, 0)", 0, 60, "OUTSIDE");
    BOOK.words("the can had a MARK (0 to 20)");
    BOOK.bounds("", "seen(0, ?)", 0, 20, "OUTSIDE");
  }

  private static void seenRefused() {
    BOOK.words("Promise 20: A SIGHT more: how many");
    BOOK.run("seen(0, 0) = 1; seen(60, 20) = 2; seen(60, 20) = 3; seen(0, 20) = 4; seen(60, 0) = 5; told(7) = 5");
    BOOK.words("Promise 20: OUTSIDE; FULL");
    String eight = CAMP + "set(0, 4000); pad " + "~".repeat(60) + "; " + "seen(60, 19); ".repeat(7) + "seen(0, 20)";
    BOOK.changesNothing(eight, "seen(0, 0) = FULL; seen(60, 20) = FULL; seen(0, 20) = FULL");
    BOOK.changesNothing(eight, "seen(-1, 0) = OUTSIDE; seen(61, 0) = OUTSIDE; seen(0, -1) = OUTSIDE; seen(0, 21) = OUTSIDE; "
        + "seen(MIN, MAX) = OUTSIDE; seen(MAX, MIN) = OUTSIDE");
    BOOK.changesNothing(CAMP + "pad ~; seen(1, 3)", "seen(-1, 0) = OUTSIDE; seen(61, 0) = OUTSIDE; seen(0, -1) = OUTSIDE; "
        + "seen(0, 21) = OUTSIDE; seen(61, 21) = OUTSIDE; seen(MIN, 0) = OUTSIDE; seen(0, MAX) = OUTSIDE");
    BOOK.run(eight + "; leaks(-1) = 1200; seen(1, 0) = FULL; leaks(-1) = 1200; seen(1, 21) = OUTSIDE; leaks(-1) = 1200");
  }

  private static void forget() {
    BOOK.words("Promise 21: SIGHTS go: how many there were");
    BOOK.run("forget() = 0; seen(0, 0) = 1; forget() = 1; forget() = 0; told(7) = 0; " + "seen(60, 20); ".repeat(8)
        + "forget() = 8; told(7) = 0; forget() = 0; seen(0, 0) = 1");
    BOOK.run(CAMP + "pad ~; leaks(-1) = 80; seen(0, 0); leaks(-1) = 0; forget() = 1; leaks(-1) = 80; told(0) = 1");
    // One SIGHT behind many that went is one alone.
    BOOK.run(CAMP + "pad ~; " + "seen(0, 0); ".repeat(8) + "forget() = 8; seen(0, 4) = 1; leaks(-1) = 80");
  }

  private static void leaksByV() {
    BOOK.words("v tens of quarters went (v 1 to 200)");
    int[] lefts = {0, 9, 10, 19, 20, 1989, 1999, 2000, 2009, 2010, 4000};
    int[] many = {0, 0, 1, 1, 2, 198, 199, 200, 200, 200, 200};
    for (int i = 0; i < lefts.length; i++) {
      BOOK.run("set(0, " + lefts[i] + "); pad ~; leaks(-1) = " + many[i] + "; leaks(0) = " + (many[i] > 0 ? "1" : "NONE")
          + "; leaks(" + many[i] + ") = NONE"
          + (many[i] > 0 ? "; leaks(" + (many[i] - 1) + ") = " + many[i] : ""));
    }
    BOOK.words("so much was LEFT");
    // Behind the shop there is more, but it was not yet LEFT.
    BOOK.run("set(2, 6); set(0, 15); pad ~$; leaks(-1) = 102; leaks(0) = 1; leaks(1) = 1001; leaks(101) = 1101");
    BOOK.run(CAMP + "set(0, 54); pad a; leaks(-1) = 1; set(0, 53); leaks(-1) = 0; set(0, 44); leaks(-1) = 0; set(0, 64); "
        + "leaks(-1) = 2");
  }

  private static void leaksByActs() {
    BOOK.words("behind one ACT (0 on) it was left on");
    BOOK.run(CAMP + "pad; leaks(-1) = 0; pad ~; leaks(-1) = 80; pad ~.; leaks(-1) = 160; leaks(79) = 80; leaks(80) = 1001; "
        + "pad ~.~; leaks(-1) = 240; leaks(160) = 2001; leaks(239) = 2080");
    BOOK.run("set(0, 4000); pad " + "~".repeat(60) + "; leaks(-1) = 12000; leaks(0) = 1; leaks(11999) = 59200; "
        + "leaks(12000) = NONE; leaks(11800) = 59001");
    // As many signs, but one ACT.
    BOOK.run(CAMP + "pad asohx; leaks(-1) = 66; leaks(65) = 66");
    BOOK.words("by which all ACTS can be yet");
    BOOK.run(CAMP + "set(0, 100); pad ~a; leaks(-1) = 10; leaks(4) = 5; leaks(5) = 1001; leaks(9) = 1005; set(0, 54); "
        + "leaks(-1) = 2; leaks(0) = 1; leaks(1) = 1001; set(0, 53); leaks(-1) = 0; set(0, 44); leaks(-1) = 0");
    BOOK.run(CAMP + "set(0, 100); pad a~a; leaks(-1) = 3; leaks(0) = 1; leaks(1) = 1001; leaks(2) = 2001");
    BOOK.run(CAMP + "set(0, 60); pad ~a$a; leaks(-1) = 196; leaks(0) = 1; leaks(1) = 1001; leaks(2) = 2001; "
        + "leaks(98) = 2097; leaks(99) = 3001; leaks(195) = 3097");
  }

  private static void leaksBySights() {
    BOOK.words("all SIGHTS are so");
    // 800 less 10 v has MARK 3 for v 1 to 20, 2 for v 21 to 40, .. 0 for v 61 to 80.
    BOOK.run("pad ~; seen(1, 3); leaks(-1) = 20; leaks(0) = 1; leaks(19) = 20; forget(); seen(1, 2); leaks(-1) = 20; "
        + "leaks(0) = 21; leaks(19) = 40; forget(); seen(1, 0); leaks(-1) = 20; leaks(0) = 61; leaks(19) = 80"
        + "; forget(); seen(1, 4); leaks(-1) = 0; forget(); seen(1, 20); leaks(-1) = 0");
    BOOK.run("set(0, 4000); pad ~; seen(1, 20); leaks(-1) = 0; forget(); seen(1, 19); leaks(-1) = 20; leaks(0) = 1; "
        + "forget(); seen(1, 10); leaks(-1) = 20; leaks(0) = 181; leaks(19) = 200; forget(); seen(1, 9); leaks(-1) = 0");
    BOOK.run("set(0, 799); pad ~; seen(1, 3); leaks(-1) = 19; leaks(18) = 19; forget(); seen(1, 2); leaks(-1) = 20; "
        + "leaks(0) = 20");
    BOOK.run("pad ~~; seen(1, 3); seen(2, 3); leaks(-1) = 20; seen(2, 2); leaks(-1) = 0; where() = 0; weigh(0) = NONE");
    BOOK.run("pad ~; seen(1, 3) = 1; seen(1, 3) = 2; leaks(-1) = 20; seen(0, 4) = 3; leaks(-1) = 20; seen(0, 3) = 4; "
        + "leaks(-1) = 0");
    BOOK.run("pad ~; " + "seen(1, 3); ".repeat(7) + "leaks(-1) = 20; seen(1, 2) = 8; leaks(-1) = 0");
    // Whichever of two that are not both so was seen first.
    BOOK.run("pad ~; seen(1, 2); seen(1, 3); leaks(-1) = 0");
    BOOK.run("pad ~; seen(1, 3); seen(1, 2); leaks(-1) = 0");
    BOOK.run("pad ~~; seen(1, 2); seen(2, 3); leaks(-1) = 0");
    BOOK.run("pad ~~; seen(2, 3); seen(1, 2); leaks(-1) = 0");
    // 756 less 10 v, behind a MEAL: MARK 2 for v 16 to 35.
    BOOK.run(CAMP + "pad ~a; seen(2, 2); leaks(-1) = 40; leaks(0) = 16; leaks(19) = 35; leaks(20) = 1016; leaks(39) = 1035; "
        + "where() = 3");
    BOOK.words("all that fit");
    BOOK.run("pad ~; told(7) = 0; leaks(-1) = 80");
    BOOK.words("a SIGHT behind more ACTS than there are is not");
    BOOK.run("pad ~~; seen(2, 3); leaks(-1) = 40; seen(3, 3); leaks(-1) = 0; where() = 0; weigh(0) = NONE; weigh(1) = NONE");
    BOOK.run("pad ~~; seen(60, 3); leaks(-1) = 0; leaks(0) = NONE");
    BOOK.run("set(0, 4000); pad " + "~".repeat(59) + "; seen(59, 19); leaks(-1) = 1180; seen(60, 19); leaks(-1) = 0; "
        + "say(126) = 60; leaks(-1) = 1180");
    BOOK.run("pad; seen(0, 4); leaks(-1) = 0; seen(1, 4); leaks(-1) = 0; weigh(0) = NONE");
    // As many signs, but one ACT.
    BOOK.run(CAMP + "pad asohx; seen(1, 3); leaks(-1) = 6; seen(2, 3); leaks(-1) = 0");
    BOOK.words("behind that ACT: what went is gone");
    BOOK.run("pad ~~; seen(1, 3); leaks(-1) = 20; leaks(0) = 1; leaks(19) = 20; where() = 1; forget(); seen(1, 4); "
        + "leaks(-1) = 80; leaks(0) = 1001; leaks(79) = 1080; where() = 2; forget(); seen(2, 3); leaks(-1) = 40; "
        + "leaks(20) = 1001; where() = 3"
        + "; forget(); seen(2, 4); leaks(-1) = 0; forget(); seen(0, 4); leaks(-1) = 160; forget(); seen(0, 3); "
        + "leaks(-1) = 0");
    // A full can is full again behind the shop, though something went ahead of it.
    BOOK.run("meal(0, 4, 25, 1); set(2, 6); set(0, 4000); pad ~$a; behind(0) = 3799; seen(3, 19); leaks(-1) = 0; forget(); "
        + "seen(3, 18); leaks(0) = 1");
    BOOK.run(CAMP + "set(0, 3900); pad ~$a; seen(3, 20); leaks(-1) = 0; forget(); seen(3, 19); leaks(-1) = 135; "
        + "leaks(0) = 1; leaks(104) = 105; leaks(105) = 1001");
    BOOK.run("set(2, 6); set(0, 809); pad ~$; seen(2, 8); leaks(-1) = 40; leaks(0) = 1; leaks(19) = 20; leaks(20) = 1001; "
        + "leaks(39) = 1020");
    BOOK.run("set(2, 6); set(0, 10); pad ~$; leaks(-1) = 102; leaks(0) = 1; leaks(1) = 1001");
    BOOK.run("set(2, 6); set(0, 4000); pad ~$; seen(2, 20); leaks(-1) = 100; leaks(99) = 100; forget(); seen(2, 19); "
        + "leaks(-1) = 40; leaks(0) = 101; leaks(20) = 1001");
  }

  private static void leaksTold() {
    BOOK.words("the i-th (1000 times the ACT and v; rising)");
    BOOK.run("set(0, 30); pad ~.~; leaks(-1) = 9; leaks(0) = 1; leaks(1) = 2; leaks(2) = 3; leaks(3) = 1001; "
        + "leaks(4) = 1002; leaks(5) = 1003; leaks(6) = 2001; leaks(7) = 2002; leaks(8) = 2003; leaks(9) = NONE");
    BOOK.run("pad ~~~; seen(1, 4); seen(2, 3); leaks(-1) = 20; leaks(0) = 1001; leaks(19) = 1020; leaks(20) = NONE");
    BOOK.words("Promise 22: LEAKS: how many (i = -1), the i-th; NONE");
    BOOK.run("pad ~; leaks(-1) = 80; leaks(79) = 80; leaks(80) = NONE; leaks(81) = NONE; leaks(12000) = NONE; "
        + "leaks(MAX) = NONE; leaks(-2) = NONE; leaks(MIN) = NONE");
    BOOK.run("leaks(-1) = 0; leaks(0) = NONE; leaks(MAX) = NONE; leaks(-2) = NONE; leaks(MIN) = NONE");
  }

  private static void leaksRefused() {
    BOOK.words("Promise 22: NO, STATE, as of judge(2)");
    BOOK.run(FAULTY + "; leaks(-1) = NO; leaks(0) = NO; leaks(MAX) = NO; leaks(MIN) = NO");
    BOOK.run(BOTH + "; leaks(-1) = NO; leaks(0) = NO");
    BOOK.run(CAN_NOT_BE + "; leaks(-1) = STATE; leaks(0) = STATE; leaks(MAX) = STATE; leaks(MIN) = STATE; seen(9, 9); "
        + "leaks(-1) = STATE");
    BOOK.run(CAMP + "set(0, 43); pad a; leaks(-1) = STATE; set(0, 44); leaks(-1) = 0");
    BOOK.words("leaks: They change nothing");
    BOOK.changesNothing(FAULTY + "; seen(1, 3)", "leaks(-1) = NO; leaks(0) = NO");
    BOOK.changesNothing(CAN_NOT_BE + "; seen(1, 3)", "leaks(-1) = STATE; leaks(0) = STATE");
    BOOK.changesNothing(CAMP + "pad a~.~; seen(1, 3)", "leaks(-1); leaks(0); leaks(MAX); leaks(MIN); where(); weigh(0); "
        + "weigh(1)");
  }

  private static void where() {
    BOOK.words("ACTS that are in some, as bits of the first 30");
    BOOK.run("where() = 0; pad ~; where() = 1; set(0, 10); leaks(-1) = 1; where() = 1; set(0, 9); where() = 0");
    String plan = "pad " + "~".repeat(31) + "; ";
    BOOK.run(plan + "where() = 1073741823; seen(30, 4); leaks(-1) = 80; leaks(0) = 30001; where() = 0");
    BOOK.run(plan + "seen(29, 4); leaks(-1) = 160; where() = 536870912; seen(30, 3); leaks(-1) = 20; leaks(0) = 29001; "
        + "where() = 536870912");
    BOOK.run(plan + "seen(1, 3); where() = 1");
    BOOK.run("pad " + "~".repeat(29) + "; where() = 536870911");
    BOOK.run("pad " + "~".repeat(30) + "; where() = 1073741823");
    BOOK.run("set(0, 4000); pad " + "~".repeat(60) + "; where() = 1073741823; seen(59, 20); leaks(-1) = 200; where() = 0");
    BOOK.run(CAMP + "set(0, 53); pad $a~; where() = 7; pad a~$; where() = 4");
    BOOK.words("Promise 23: NO, STATE, likewise");
    BOOK.run(FAULTY + "; where() = NO");
    BOOK.run(BOTH + "; where() = NO");
    BOOK.run(CAN_NOT_BE + "; where() = STATE");
    BOOK.words("where: They change nothing");
    BOOK.changesNothing(FAULTY + "; seen(1, 3)", "where() = NO");
    BOOK.changesNothing(CAN_NOT_BE + "; seen(1, 3)", "where() = STATE");
  }

  private static void weigh() {
    BOOK.words("WEIGH: the ACT behind which to read the MARK next, so that fewest of these are left at the most");
    BOOK.run("pad ~; weigh(0) = 0; weigh(1) = 20; pad ~~; weigh(0) = 1; weigh(1) = 40; seen(1, 4); weigh(0) = 1; "
        + "weigh(1) = 20");
    BOOK.run("set(0, 10); pad ~; weigh(0) = 0; weigh(1) = 1");
    BOOK.run("set(0, 4000); pad " + "~".repeat(60) + "; seen(60, 19); weigh(0) = 29; weigh(1) = 600");
    BOOK.run("set(0, 4000); pad " + "~".repeat(60) + "; seen(59, 20); weigh(0) = 59; weigh(1) = 20");
    tried("~a~", 800, 44);
    tried("~a~a~a", 803, 44);
    tried("a~$~a", 3999, 44);
    tried("$a$a~", 3900, 44);
    tried("~$$~", 2500, 44);
    tried("~~$~$~", 3400, 44, 6, 19);
    tried("~~$~$~", 3400, 44, 6, 20);
    tried("aaa$aaa$aaa", 3333, 44);
    tried("aaa$aaa$aaa", 3333, 44, 0, 16, 5, 19);
    tried("aaaaaaaaaaaaaaaaaa", 1000, 44, 9, 2);
    tried("~a$a~a$a~a$a~", 1999, 44, 7, 15);
    // What is LEFT is a whole MARK more, or a quarter less than that.
    tried("~a", 820, 44, 2, 3);
    tried("~", 209, 44);
    tried("~", 210, 44);
    tried("~$", 209, 44);
    tried("~$", 200, 44);
    tried("~$a", 4000, 201);
    tried("~a$a", 4000, 201);
    tried("$$a~", 3999, 200);
    tried("~~a~", 800, 200);
    tried("~$~a", 100, 201);
    tried("$$$$", 0, 44, 4, 19);
    tried("$$$$$", 4000, 44, 5, 19);
    BOOK.words("the least; how many");
    BOOK.run("pad ~~; seen(1, 3); weigh(0) = 0; weigh(1) = 20; pad ~~~; weigh(0) = 0; weigh(1) = 20");
    BOOK.words("Promise 24: WEIGH: the ACT (what = 0), how many (1); NONE: there are no LEAKS");
    BOOK.run("weigh(0) = NONE; weigh(1) = NONE; pad ~; set(0, 9); weigh(0) = NONE; weigh(1) = NONE; set(0, 10); "
        + "weigh(0) = 0; weigh(1) = 1; seen(2, 0); weigh(0) = NONE; weigh(1) = NONE");
  }

  /** All LEAKS of a PLAN of ~, $ and one MEAL, found by trying each; sights are twos of ACTS and MARK. */
  private static void tried(String plan, int left, int price, int... sights) {
    int acts = plan.length();
    int found = 0;
    int where = 0;
    int[][] byMark = new int[acts][21];
    String meal = price == 44 ? "" : "meal(0, 4, " + (price - 176) + ", 1); plain(0, 0, 0) = " + price + "; ";
    StringBuilder steps = new StringBuilder(CAMP + meal + "set(0, " + left + "); pad " + plan);
    for (int s = 0; s < sights.length; s += 2) {
      steps.append("; seen(" + sights[s] + ", " + sights[s + 1] + ")");
    }
    for (int act = 0; act < acts; act++) {
      for (int v = 1; v <= 200; v++) {
        int[] lefts = lefts(plan, left, price, 1000 * act + v);
        boolean fits = lefts != null;
        for (int s = 0; s < sights.length && fits; s += 2) {
          fits = lefts[sights[s]] / 200 == sights[s + 1];
        }
        if (fits) {
          steps.append(found % 40 == 0 ? "; leaks(" + found + ") = " + (1000 * act + v) : "");
          found++;
          where |= 1 << act;
          for (int read = 0; read < acts; read++) {
            byMark[read][lefts[read + 1] / 200]++;
          }
        }
      }
    }
    int best = -6;
    int most = -6;
    for (int read = 0; read < acts && found > 0; read++) {
      int here = java.util.Arrays.stream(byMark[read]).max().getAsInt();
      if (best < 0 || here < most) {
        best = read;
        most = here;
      }
    }
    BOOK.run(steps + "; leaks(-1) = " + found + "; leaks(" + found + ") = NONE; where() = " + where + "; weigh(0) = "
        + best + "; weigh(1) = " + most);
  }

  /** LEFT behind 0 ACTS and on; null, if it is not enough. */
  private static int[] lefts(String plan, int left, int price, int leak) {
    int[] lefts = new int[plan.length() + 1];
    lefts[0] = left;
    for (int act = 0; act < plan.length(); act++) {
      int more = plan.charAt(act) == 'a' ? -price : plan.charAt(act) == '$' ? 1000 : 0;
      lefts[act + 1] = Math.min(4000, lefts[act] + more);
      if (lefts[act + 1] < 0) {
        return null;
      }
      lefts[act + 1] -= act == leak / 1000 ? 10 * (leak % 1000) : 0;
      if (lefts[act + 1] < 0) {
        return null;
      }
    }
    return lefts;
  }

  private static void weighRefused() {
    BOOK.words("Promise 24: OUTSIDE");
    BOOK.bounds("pad ~", "weigh(?)", 0, 1, "OUTSIDE");
    for (String state : new String[] {"", FAULTY, CAN_NOT_BE, BOTH}) {
      BOOK.run(state + "; weigh(2) = OUTSIDE; weigh(-1) = OUTSIDE; weigh(MIN) = OUTSIDE; weigh(MAX) = OUTSIDE");
    }
    BOOK.words("Promise 24: NO, STATE, likewise");
    BOOK.run(FAULTY + "; weigh(0) = NO; weigh(1) = NO");
    BOOK.run(BOTH + "; weigh(0) = NO; weigh(1) = NO");
    BOOK.run(CAN_NOT_BE + "; weigh(0) = STATE; weigh(1) = STATE");
    BOOK.words("weigh: They change nothing");
    BOOK.changesNothing(CAMP + "pad a~; seen(1, 3)", "weigh(2) = OUTSIDE; weigh(-1) = OUTSIDE; weigh(MIN) = OUTSIDE; "
        + "weigh(MAX) = OUTSIDE");
    BOOK.changesNothing(FAULTY + "; seen(1, 3)", "weigh(0) = NO; weigh(1) = NO; weigh(2) = OUTSIDE");
    BOOK.changesNothing(CAN_NOT_BE + "; seen(1, 3)", "weigh(0) = STATE; weigh(1) = STATE; weigh(2) = OUTSIDE");
  }

  private static void gustDays() {
    BOOK.words("each DAY of the PLAN on the PAD (from the one that it is on to the one behind all ACTS)");
    // Each DAY is calm with 7 tenths, and with one gust the gas is not enough.
    String plan = "a";
    long upper = 7;
    long lower = 10;
    for (int days = 1; days <= 8; days++) {
      BOOK.run(CAMP + "set(0, " + 44 * days + "); pad " + plan + "; gust(3, 0, 0) = " + upper + "; gust(3, 0, 1) = " + lower);
      BOOK.run(CAMP + "set(4, " + (14 - days) + "); set(0, " + 44 * days + "); pad " + plan + "; gust(3, 0, 0) = "
          + upper + "; gust(3, 0, 1) = " + lower);
      plan += ".a";
      upper *= 7;
      lower *= 10;
    }
    BOOK.words("Promise 25: FULL: more than 8 DAYS");
    BOOK.run(CAMP + "pad .......; gust(3, 0, 0) = 1; gust(3, 1, 0) = 0; pad ........; gust(3, 0, 0) = GONE + FULL; "
        + "gust(3, 0, 1) = GONE + FULL; gust(3, 1, 0) = GONE + FULL; gust(3, 1, 1) = GONE + FULL"
        + "; gust(0, 1, 0) = GONE + FULL; pad .............; gust(3, 1, 0) = GONE + FULL");
    BOOK.run(CAMP + "set(4, 5); pad ........; gust(3, 1, 0) = GONE + FULL; set(4, 6); pad .......; gust(3, 1, 0) = 0; "
        + "set(4, 13); pad a; gust(0, 1, 0) = 44");
    BOOK.words("with t tenths (0 to 10)");
    BOOK.bounds(CAMP + "pad a", "gust(?, 1, 0)", 0, 10, "GONE + OUTSIDE");
    StringBuilder steps = new StringBuilder(CAMP + "set(0, 44); pad a");
    int[][] calm = {{1, 1}, {9, 10}, {4, 5}, {7, 10}, {3, 5}, {1, 2}, {2, 5}, {3, 10}, {1, 5}, {1, 10}, {0, 1}};
    for (int t = 0; t <= 10; t++) {
      steps.append("; gust(" + t + ", 0, 0) = " + calm[t][0] + "; gust(" + t + ", 0, 1) = " + calm[t][1]);
    }
    BOOK.run(steps.toString());
  }

  private static void gustWinds() {
    BOOK.words("WIND 2 more than told (4 at most)");
    int[] plain = {44, 55, 66, 77, 88};
    int[] gusty = {66, 77, 88, 88, 88};
    int[] shielded = {44, 55, 66, 66, 66};
    for (int w = 0; w <= 4; w++) {
      BOOK.run(CAMP + "day(0, " + w + ", false); pad a; gust(0, 1, 0) = " + plain[w] + "; gust(10, 1, 0) = "
          + gusty[w] + "; gust(10, 1, 1) = 1; set(3, 1); gust(10, 1, 0) = " + shielded[w]
          + "; set(0, " + shielded[w] + "); gust(10, 0, 0) = 1; set(0, " + (shielded[w] - 1) + "); gust(10, 0, 0) = 0");
    }
    BOOK.words("each by itself");
    BOOK.run(CAMP + "set(0, 110); pad a.a; gust(5, 0, 0) = 3; gust(5, 0, 1) = 4; gust(1, 0, 0) = 99; gust(1, 0, 1) = 100; "
        + "set(0, 132); gust(5, 0, 0) = 1; gust(5, 0, 1) = 1; set(0, 131); gust(5, 0, 0) = 3");
  }

  private static void gustChance() {
    BOOK.words("that all ACTS can be");
    BOOK.run("gust(3, 0, 0) = 1; gust(3, 0, 1) = 1; set(0, 0); gust(10, 0, 0) = 1; gust(10, 0, 1) = 1");
    BOOK.run(CAMP + "set(0, 43); pad a; gust(3, 0, 0) = 0; gust(3, 0, 1) = 1; gust(0, 0, 0) = 0; gust(0, 0, 1) = 1; "
        + "set(0, 44); gust(10, 0, 0) = 0; gust(0, 0, 0) = 1; set(0, 66); gust(10, 0, 0) = 1; gust(10, 0, 1) = 1");
    BOOK.run(CAMP + "set(0, 2640); pad " + "a".repeat(60) + "; gust(0, 0, 0) = 1; gust(1, 0, 0) = 9; gust(1, 0, 1) = 10; "
        + "set(0, 2639); gust(0, 0, 0) = 0; set(0, 3960); gust(10, 0, 0) = 1; set(0, 3959); gust(10, 0, 0) = 0");
    // The shop comes too late, or in time; what it sells beyond a full can is not there.
    BOOK.run(CAMP + "set(0, 44); pad a$; gust(4, 0, 0) = 3; gust(4, 0, 1) = 5; pad $a; gust(4, 0, 0) = 1; gust(4, 0, 1) = 1");
    BOOK.run("meal(0, 4, 60, 1); set(2, 6); set(0, 4000); pad $" + "asoh".repeat(7) + "; gust(5, 0, 0) = 0; pad $"
        + "asoh".repeat(6) + "; gust(5, 0, 0) = 1; gust(5, 0, 1) = 2");
    // What the shop sells, and what the can holds, to the quarter: 1000 each, 91 each.
    String gale = "meal(0, 4, 60, 1); meal(1, 1, 3, 1); day(0, 4, false); set(2, 6); ";
    BOOK.run(gale + "set(0, 0); pad $asoh; gust(5, 0, 0) = 1; pad $asohb; gust(5, 0, 0) = 0; set(0, 90); gust(5, 0, 0) = 0; "
        + "set(0, 91); gust(5, 0, 0) = 1");
    BOOK.run(gale + "set(0, 4000); pad $" + "asoh".repeat(4) + "; gust(5, 0, 0) = 1; pad $" + "asoh".repeat(3) + "b".repeat(11)
        + "; gust(5, 0, 0) = 0; set(0, 3000); gust(5, 0, 0) = 0; pad $" + "asoh".repeat(4) + "; gust(5, 0, 0) = 1; "
        + "set(0, 2999); gust(5, 0, 0) = 0");
    BOOK.words("Promise 25: GUST: that all can be (what = 0), the mean (1)");
    BOOK.run(CAMP + "set(0, 44); pad a; gust(5, 0, 0) = 1; gust(5, 0, 1) = 2; gust(5, 1, 0) = 55; gust(5, 1, 1) = 1");
    BOOK.words("Fractions are told in lowest terms by part: 0 the upper, 1 the lower number");
    BOOK.run(CAMP + "set(0, 44); pad a; gust(5, 0, 0) = 1; gust(5, 0, 1) = 2; gust(2, 0, 0) = 4; gust(2, 0, 1) = 5; "
        + "gust(2, 1, 0) = 242; gust(2, 1, 1) = 5; gust(5, 1, 0) = 55; gust(5, 1, 1) = 1; gust(10, 0, 0) = 0; "
        + "gust(10, 0, 1) = 1");
    BOOK.run(CAMP + "set(0, 352); pad a.a.a.a.a.a.a.a; gust(5, 0, 0) = 1; gust(5, 0, 1) = 256; gust(1, 0, 0) = 43046721; "
        + "gust(1, 0, 1) = 100000000; gust(9, 0, 0) = 1; gust(9, 0, 1) = 100000000");
  }

  private static void gustMean() {
    BOOK.words("the mean of what would be burnt, were there gas without end");
    BOOK.run("gust(3, 1, 0) = 0; gust(3, 1, 1) = 1; gust(0, 1, 0) = 0; gust(10, 1, 1) = 1");
    BOOK.run(CAMP + "set(0, 0); pad a; gust(0, 1, 0) = 44; gust(10, 1, 0) = 66; gust(3, 1, 0) = 253; gust(3, 1, 1) = 5; "
        + "pad as; gust(3, 1, 0) = 506; pad a.a; gust(5, 1, 0) = 110; gust(5, 1, 1) = 1");
    BOOK.run("meal(0, 4, 60, 1); day(0, 4, false); set(0, 0); pad " + "asoh".repeat(15) + "; gust(0, 1, 0) = 15000; "
        + "gust(10, 1, 0) = 15000; gust(7, 1, 1) = 1");
  }

  private static void gustRefused() {
    BOOK.words("Promise 25: OUTSIDE");
    BOOK.bounds(CAMP + "pad a", "gust(3, ?, 0)", 0, 1, "GONE + OUTSIDE");
    BOOK.bounds(CAMP + "pad a", "gust(3, 0, ?)", 0, 1, "GONE + OUTSIDE");
    BOOK.bounds(CAMP + "pad a", "gust(3, 1, ?)", 0, 1, "GONE + OUTSIDE");
    for (String state : new String[] {"", FAULTY, CAN_NOT_BE, BOTH, "pad ........"}) {
      BOOK.run(state + "; gust(-1, 0, 0) = GONE + OUTSIDE; gust(11, 0, 0) = GONE + OUTSIDE; gust(0, 2, 0) = GONE + OUTSIDE; "
          + "gust(0, -1, 0) = GONE + OUTSIDE; gust(0, 0, 2) = GONE + OUTSIDE; gust(0, 0, -1) = GONE + OUTSIDE"
          + "; gust(MIN, MIN, MIN) = GONE + OUTSIDE; gust(MAX, MAX, MAX) = GONE + OUTSIDE");
    }
    BOOK.words("Promise 25: NO: there is a FAULT");
    BOOK.run(FAULTY + "; gust(0, 0, 0) = GONE + NO; gust(10, 1, 1) = GONE + NO");
    BOOK.run(BOTH + "; gust(0, 0, 0) = GONE + NO; gust(10, 1, 1) = GONE + NO");
    BOOK.run(CAMP + "pad ........!; gust(0, 0, 0) = GONE + NO; gust(0, 1, 0) = GONE + NO");
    BOOK.words("Promise 25: STATE: some ACT can not be, were there gas without end");
    BOOK.run(CAN_NOT_BE + "; gust(0, 0, 0) = GONE + STATE; gust(0, 1, 1) = GONE + STATE; set(0, 0); "
        + "gust(0, 0, 0) = GONE + STATE");
    BOOK.run("meal(0, 1, 0, 100); set(1, 3); pad a; gust(0, 0, 0) = GONE + STATE; set(1, 2); gust(0, 0, 0) = 1");
    BOOK.run(CAMP + "day(0, 0, true); pad ah; gust(0, 0, 0) = GONE + STATE; day(0, 0, false); gust(0, 0, 0) = 1");
    BOOK.run("pad $; gust(0, 0, 0) = GONE + STATE; set(2, 1); gust(0, 0, 0) = 1");
    BOOK.run("set(4, 13); pad .; gust(0, 0, 0) = GONE + STATE; set(4, 12); gust(0, 0, 0) = 1");
    BOOK.run(CAMP + "set(0, 0); pad a; judge(1) = 4; gust(0, 0, 0) = 0; gust(0, 1, 0) = 44");
    BOOK.run(CAMP + "pad ........b; gust(0, 0, 0) = GONE + STATE; pad b........; gust(0, 1, 0) = GONE + STATE; "
        + "pad a........; gust(0, 1, 0) = GONE + FULL");
    BOOK.words("gust: They change nothing");
    BOOK.changesNothing(CAMP + "pad a.a", "gust(11, 0, 0) = GONE + OUTSIDE; gust(-1, 0, 0) = GONE + OUTSIDE; "
        + "gust(0, 2, 0) = GONE + OUTSIDE; gust(0, 0, MIN) = GONE + OUTSIDE; gust(7, 0, 0); gust(7, 1, 1)");
    BOOK.changesNothing(FAULTY, "gust(0, 0, 0) = GONE + NO");
    BOOK.changesNothing(CAN_NOT_BE, "gust(0, 0, 0) = GONE + STATE");
    BOOK.changesNothing(CAMP + "pad a........", "gust(0, 0, 0) = GONE + FULL; gust(0, 1, 1) = GONE + FULL");
  }
}
