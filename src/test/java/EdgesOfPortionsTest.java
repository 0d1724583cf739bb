/** Part 3 of the document's Terms and promises 14 to 19: each sentence that names an edge by a test of its own. */
public final class EdgesOfPortionsTest {
  private static final Book BOOK = new Book("EdgesOfPortionsTest");
  /** MEAL m costs 11 times QUARTS times 4 and MINUTES: 54, 108, 162, 216, 64, 118. */
  private static final String SIX = "meal(0, 1, 10, 1); meal(1, 2, 20, 1); meal(2, 3, 30, 1); meal(3, 4, 40, 1); "
      + "meal(4, 1, 20, 1); meal(5, 2, 30, 1); ";
  private static final int[] SIX_COST = {54, 108, 162, 216, 64, 118};
  private static final int[] TENS = {100000, 10000, 1000, 100, 10, 1};
  /** Costs 44, without WIND. */
  private static final String ONE = "meal(0, 1, 0, 1); ";

  public static void main(String[] args) {
    digits();
    shared();
    sharedRefused();
    mostDays();
    mostGas();
    mostRefused();
    least();
    leastRefused();
    ends();
    endsRefused();
    mark();
    keep();
    keepRefused();
    BOOK.close();
  }

  private static void digits() {
    BOOK.words("a number to ten of six digits (the highest for MEAL 0 .. the lowest for MEAL 5; 0 to 9 each)");
    for (int m = 0; m < 6; m++) {
      BOOK.run(SIX + "shared(" + TENS[m] + ", 0) = " + SIX_COST[m] + "; most(" + TENS[m] + ", 0, 0) = 1; least("
          + TENS[m] + ", 0) = " + SIX_COST[m]);
      BOOK.run("meal(" + m + ", 4, 1, 1); shared(" + 9 * TENS[m] + ", 0) = 1593; least(" + 9 * TENS[m] + ", 4) = 1593; most("
          + 9 * TENS[m] + ", 0, 0) = 4"
          + "; most(" + 9 * TENS[m] + ", 0, 1) = 20");
    }
    BOOK.run(SIX + "shared(111111, 0) = 722; shared(0, 0) = 0; shared(1, 0) = 118; shared(10, 0) = 64; "
        + "shared(100001, 0) = 172");
  }

  private static void shared() {
    BOOK.words("(with a lid, not high, simmered, not of SNOW, as always here)");
    BOOK.run("meal(2, 4, 60, 1); day(7, 3, true); plain(2, 7, 0) = 368; shared(1000, 7) = 368; set(3, 1); "
        + "plain(2, 7, 0) = 280; shared(1000, 7) = 280");
    BOOK.words("QUARTS of all in it 4 at most");
    int[] inOne = {0, 4, 2, 1, 1};
    for (int quarts = 1; quarts <= 4; quarts++) {
      StringBuilder steps = new StringBuilder("meal(0, " + quarts + ", 60, 1)");
      for (int n = 0; n <= 9; n++) {
        int pots = n / inOne[quarts] + (n % inOne[quarts] > 0 ? 1 : 0);
        steps.append("; shared(" + n * 100000 + ", 0) = " + (44 * quarts * n + 60 * pots));
      }
      BOOK.run(steps.toString());
    }
    BOOK.words("portions of one MEAL may share a pot");
    BOOK.run("meal(0, 1, 10, 1); meal(1, 1, 10, 1); shared(200000, 0) = 98; shared(110000, 0) = 108; shared(20000, 0) = 98");
    BOOK.words("MINUTES count once for a pot");
    BOOK.run("meal(0, 1, 60, 1); shared(400000, 0) = 236; shared(500000, 0) = 340; meal(0, 1, 0, 1); "
        + "shared(400000, 0) = 176; shared(500000, 0) = 220");
    BOOK.words("the least that is burnt for all");
    String all = "";
    String windy = "day(13, 4, false)";
    for (int m = 0; m < 6; m++) {
      all += "meal(" + m + ", 4, 60, 100); ";
    }
    BOOK.run(all + windy + "; shared(999999, 13) = 22248; shared(999999, 0) = 12744; shared(0, 0) = 0; shared(0, 13) = 0");
    BOOK.run("shared(0, 0) = 0; shared(0, 13) = 0");
    BOOK.words("whether they boil hot enough or not");
    BOOK.run("meal(0, 1, 0, 100); set(1, 60); shared(100000, 0) = 44; set(0, 0); shared(100000, 0) = 44; "
        + "shared(900000, 0) = 396");
    BOOK.words("on a DAY (with a lid");
    BOOK.run(ONE + "day(0, 1, false); day(13, 4, true); shared(100000, 0) = 55; shared(100000, 1) = 44; "
        + "shared(100000, 13) = 88; set(4, 13); shared(100000, 0) = 55");
  }

  private static void sharedRefused() {
    BOOK.words("Promise 14: OUTSIDE: portions 0 to 999999");
    BOOK.bounds(SIX, "shared(?, 0)", 0, 999999, "OUTSIDE");
    BOOK.run("shared(-1, 0) = OUTSIDE; shared(1000000, 0) = OUTSIDE; shared(-1, 14) = OUTSIDE; "
        + "shared(1000000, -1) = OUTSIDE; shared(MIN, MIN) = OUTSIDE; shared(MAX, MAX) = OUTSIDE"
        + "; shared(1000001, 0) = OUTSIDE; shared(-1, 0) = OUTSIDE");
    BOOK.words("Promise 14: UNKNOWN: the DAY, or a MEAL that there is not");
    BOOK.bounds(SIX, "shared(100000, ?)", 0, 13, "UNKNOWN");
    BOOK.bounds("", "shared(0, ?)", 0, 13, "UNKNOWN");
    for (int m = 0; m < 6; m++) {
      BOOK.run("shared(" + TENS[m] + ", 0) = UNKNOWN; shared(" + 9 * TENS[m] + ", 13) = UNKNOWN; shared("
          + TENS[m] + ", 14) = UNKNOWN; meal(" + m + ", 1, 0, 1); shared(" + TENS[m] + ", 0) = 44"
          + "; shared(" + (111111 - TENS[m]) + ", 0) = UNKNOWN; shared(111111, 0) = UNKNOWN");
    }
    BOOK.words("shared: They change nothing");
    BOOK.changesNothing(ONE + "pad a", "shared(-1, 0) = OUTSIDE; shared(1000000, 0) = OUTSIDE; shared(100000, 14) = UNKNOWN; "
        + "shared(100000, MIN) = UNKNOWN; shared(1, 0) = UNKNOWN; shared(900000, 0)");
  }

  private static void mostDays() {
    BOOK.words("on one of the DAYS from the one that it is on to a told one");
    // Only one DAY of all is calm: it counts from when it is among them.
    String windy = "meal(0, 1, 0, 1); ";
    for (int d = 0; d < 14; d++) {
      windy += "day(" + d + ", " + (d == 5 ? 0 : 4) + ", false); ";
    }
    BOOK.run(windy + "set(0, 44); most(100000, 0, 0) = 0; most(100000, 4, 0) = 0; most(100000, 5, 0) = 1; "
        + "most(100000, 6, 0) = 1; most(100000, 13, 0) = 1"
        + "; set(4, 5); most(100000, 5, 0) = 1; most(100000, 13, 0) = 1; set(4, 6); most(100000, 6, 0) = 0; "
        + "most(100000, 13, 0) = 0; set(0, 88); most(100000, 13, 0) = 1");
    BOOK.run(windy + "day(0, 0, false); day(5, 4, false); set(0, 44); most(100000, 0, 0) = 1; set(4, 1); "
        + "most(100000, 13, 0) = 0; day(13, 0, false); most(100000, 12, 0) = 0"
        + "; most(100000, 13, 0) = 1; set(4, 13); most(100000, 13, 0) = 1; most(100000, 13, 1) = 1");
    String gales = "meal(0, 1, 0, 1); ";
    for (int d = 0; d < 14; d++) {
      gales += "day(" + d + ", 4, false); ";
    }
    BOOK.run(gales + "set(0, 87); most(100000, 0, 0) = 0; most(100000, 13, 0) = 0; set(0, 88); most(100000, 13, 0) = 1; "
        + "set(3, 1); set(0, 65); most(100000, 13, 0) = 0; set(0, 66); most(100000, 13, 0) = 1");
    BOOK.words("(as many on one as one likes)");
    BOOK.run(ONE + "set(0, 4000); most(900000, 0, 0) = 9; set(4, 13); most(900000, 13, 0) = 9");
    BOOK.words("each boiled by itself");
    BOOK.run("meal(0, 1, 60, 1); set(0, 207); most(200000, 0, 0) = 1; set(0, 208); most(200000, 0, 0) = 2; "
        + "shared(200000, 0) = 148");
  }

  private static void mostGas() {
    BOOK.words("so that no more is burnt than is LEFT");
    BOOK.run(ONE + "set(0, 0); most(900000, 0, 0) = 0; most(900000, 0, 1) = 0; set(0, 43); most(900000, 0, 0) = 0; "
        + "set(0, 44); most(900000, 0, 0) = 1; set(0, 87); most(900000, 0, 0) = 1"
        + "; set(0, 88); most(900000, 0, 0) = 2; set(0, 395); most(900000, 0, 0) = 8; set(0, 396); most(900000, 0, 0) = 9; "
        + "set(0, 4000); most(900000, 0, 0) = 9");
    BOOK.words("(those that do not boil hot enough can not be)");
    BOOK.run("meal(0, 1, 0, 80); meal(1, 1, 0, 81); set(1, 59); most(340000, 0, 0) = 7; set(1, 60); most(340000, 0, 0) = 3; "
        + "most(340000, 0, 1) = 3; most(40000, 0, 0) = 0; most(40000, 0, 1) = 0");
    for (int cold = 0; cold < 6; cold++) {
      StringBuilder steps = new StringBuilder("set(1, 60)");
      for (int m = 0; m < 6; m++) {
        steps.append("; meal(" + m + ", 1, 1, " + (m == cold ? 81 : 80) + ")");
      }
      BOOK.run(steps + "; most(222222, 0, 0) = 10; most(222222, 0, 1) = 20; most(" + 9 * TENS[cold] + ", 0, 0) = 0");
    }
    BOOK.words("how many at most; the most WORTH, each MEAL being worth as many as MINUTES and QUARTS");
    // 44, 1 WORTH; 236, 64 WORTH.
    BOOK.run("meal(0, 1, 0, 1); meal(5, 4, 60, 1); set(0, 236); most(900009, 0, 0) = FULL; most(900003, 0, 0) = 5; "
        + "most(900003, 0, 1) = 64; set(0, 235); most(900003, 0, 0) = 5; most(900003, 0, 1) = 5"
        + "; set(0, 280); most(900003, 0, 0) = 6; most(900003, 0, 1) = 65; most(0, 0, 0) = 0; most(0, 0, 1) = 0; "
        + "set(0, 4000); most(900003, 0, 0) = 12; most(900003, 0, 1) = 201");
    BOOK.run("most(0, 0, 0) = 0; most(0, 13, 1) = 0; set(0, 0); set(4, 13); most(0, 13, 0) = 0");
    BOOK.run("meal(0, 4, 60, 1); meal(1, 4, 60, 1); set(0, 4000); most(930000, 0, 1) = 768; most(930000, 0, 0) = 12");
  }

  private static void mostRefused() {
    BOOK.words("Promise 15: OUTSIDE");
    BOOK.bounds(ONE, "most(0, 0, ?)", 0, 1, "OUTSIDE");
    BOOK.run("most(-1, 0, 0) = OUTSIDE; most(1000000, 0, 0) = OUTSIDE; most(MIN, 0, 1) = OUTSIDE; most(MAX, 0, 1) = OUTSIDE");
    BOOK.run(SIX + "set(4, 5); most(999999, 5, 0) = FULL; most(1000000, 5, 0) = OUTSIDE; most(1000000, 14, 0) = OUTSIDE; "
        + "most(1000000, 4, 0) = OUTSIDE; most(-1, -1, 0) = OUTSIDE; most(0, 14, 2) = OUTSIDE; most(0, 4, -1) = OUTSIDE"
        + "; most(999999, 5, 2) = OUTSIDE; most(999999, 14, MAX) = OUTSIDE");
    BOOK.run("most(100000, 0, 2) = OUTSIDE; most(999999, 0, MIN) = OUTSIDE");
    BOOK.words("Promise 15: UNKNOWN, likewise");
    BOOK.bounds(ONE, "most(100000, ?, 0)", 0, 13, "UNKNOWN");
    for (int m = 0; m < 6; m++) {
      BOOK.run("most(" + TENS[m] + ", 0, 0) = UNKNOWN; most(999999, 0, 1) = UNKNOWN; meal(" + m + ", 1, 0, 1); most("
          + TENS[m] + ", 0, 0) = 1; most(" + (111111 - TENS[m]) + ", 0, 0) = UNKNOWN; most(999999, 0, 1) = UNKNOWN");
    }
    BOOK.words("Promise 15: and a DAY ahead of the one that it is");
    BOOK.bounds(ONE + "set(4, 5)", "most(100000, ?, 0)", 5, 13, "UNKNOWN");
    BOOK.bounds(ONE + "set(4, 13)", "most(100000, ?, 1)", 13, 13, "UNKNOWN");
    BOOK.words("Promise 15: FULL: more than 12 portions");
    BOOK.run(SIX + "most(930000, 13, 0) = 11; most(940000, 13, 0) = FULL; most(222222, 13, 0) = 8; "
        + "most(222223, 13, 0) = FULL; most(322222, 13, 1) = FULL; most(999999, 13, 0) = FULL");
    BOOK.run(SIX + "set(4, 5); most(940000, 4, 0) = UNKNOWN; most(940000, 14, 0) = UNKNOWN; most(940000, 5, 0) = FULL");
    BOOK.run("meal(0, 1, 0, 100); meal(1, 1, 0, 100); set(1, 60); most(930000, 0, 0) = 0; most(940000, 0, 0) = FULL");
    BOOK.run("meal(0, 1, 0, 1); meal(1, 1, 0, 1); most(940010, 0, 0) = UNKNOWN");
    BOOK.words("Promise 15: MOST: how many (what = 0), WORTH (1)");
    BOOK.run("meal(0, 1, 60, 1); most(200000, 0, 0) = 2; most(200000, 0, 1) = 122");
    BOOK.words("most: They change nothing");
    BOOK.changesNothing(ONE + "pad a; set(4, 3)", "most(-1, 5, 0) = OUTSIDE; most(0, 5, 2) = OUTSIDE; "
        + "most(0, 14, 0) = UNKNOWN; most(0, 2, 0) = UNKNOWN; most(1, 5, 0) = UNKNOWN; most(900000, 5, 1)");
    BOOK.changesNothing(SIX + "pad a", "most(940000, 5, 0) = FULL; most(999999, 5, 1) = FULL");
  }

  private static void least() {
    BOOK.words("LEAST: all of them, 2 a DAY at most");
    StringBuilder steps = new StringBuilder("meal(0, 1, 0, 1); meal(1, 1, 0, 1)");
    for (int days = 1; days <= 6; days++) {
      int fit = 2 * days;
      int fits = fit <= 9 ? fit * 100000 : 900000 + (fit - 9) * 10000;
      steps.append("; least(" + fits + ", " + (days - 1) + ") = " + 44 * fit);
      if (fit < 12) {
        int one = fit < 9 ? (fit + 1) * 100000 : 900000 + (fit - 8) * 10000;
        steps.append("; least(" + one + ", " + (days - 1) + ") = NONE; least(" + one + ", " + days + ") = " + 44 * (fit + 1));
      }
    }
    BOOK.run(steps.toString());
    BOOK.run(ONE + "set(4, 13); least(100000, 13) = 44; least(200000, 13) = 88; least(300000, 13) = NONE; set(4, 12); "
        + "least(300000, 13) = 132; least(400000, 13) = 176; least(500000, 13) = NONE; least(300000, 12) = NONE");
    for (int m = 0; m < 6; m++) {
      BOOK.run("meal(" + m + ", 2, 0, 1); day(0, 4, false); least(" + 3 * TENS[m] + ", 0) = NONE; least("
          + 2 * TENS[m] + ", 0) = 352; least(" + 2 * TENS[m] + ", 1) = 176; least(" + 3 * TENS[m] + ", 1) = 352");
    }
    BOOK.run("meal(0, 1, 0, 1); meal(1, 1, 0, 1); least(110000, 0) = 88; least(210000, 0) = NONE; least(120000, 0) = NONE; "
        + "least(210000, 1) = 132; least(220000, 1) = 176; least(320000, 1) = NONE");
    // DAYS on which nothing was boiled when it was asked before are none of this time.
    for (int wind = 0; wind <= 4; wind++) {
      BOOK.run(ONE + "day(0, " + wind + ", false); least(0, 0) = 0; day(0, " + (wind + 1) % 5 + ", false); "
          + "least(300000, 0) = NONE; least(200000, 0) = " + (88 + 22 * ((wind + 1) % 5)) + "; least(300000, 0) = NONE");
    }
    BOOK.words("the least that is burnt (whatever is LEFT)");
    BOOK.run(ONE + "set(0, 0); least(200000, 0) = 88; set(0, 4000); least(200000, 0) = 88; least(0, 0) = 0; "
        + "least(0, 13) = 0");
    BOOK.run("meal(0, 1, 0, 1); meal(1, 4, 60, 1); day(0, 4, false); day(1, 1, false); least(200000, 0) = 176; "
        + "least(200000, 1) = 110; least(300000, 1) = 198; least(200000, 2) = 88"
        + "; least(210000, 1) = 423; least(220000, 1) = 736; least(320000, 2) = 670; set(4, 2); least(200000, 2) = 88; "
        + "set(4, 1); least(300000, 2) = 143; least(200000, 1) = 110");
    BOOK.words("NONE (too few DAYS, or one that does not boil hot enough)");
    BOOK.run("meal(0, 1, 0, 80); meal(1, 1, 0, 81); set(1, 59); least(110000, 0) = 88; set(1, 60); least(110000, 0) = NONE; "
        + "least(100000, 0) = 44; least(10000, 13) = NONE; least(200000, 0) = 88; least(300000, 0) = NONE");
    BOOK.run("least(0, 0) = 0; least(0, 13) = 0; set(0, 0); set(4, 13); least(0, 13) = 0");
  }

  private static void leastRefused() {
    BOOK.words("Promise 16: OUTSIDE");
    BOOK.run("least(-1, 0) = OUTSIDE; least(1000000, 0) = OUTSIDE; least(MIN, 0) = OUTSIDE; least(MAX, 0) = OUTSIDE; "
        + "least(-1, 14) = OUTSIDE; least(1000000, -1) = OUTSIDE; least(MAX, MAX) = OUTSIDE");
    BOOK.run(SIX + "set(4, 5); least(999999, 5) = FULL; least(1000000, 5) = OUTSIDE; least(1000000, 4) = OUTSIDE; "
        + "least(-1, 5) = OUTSIDE; least(1048576, 5) = OUTSIDE");
    BOOK.words("Promise 16: UNKNOWN, FULL, likewise");
    BOOK.bounds(ONE, "least(100000, ?)", 0, 13, "UNKNOWN");
    BOOK.bounds(ONE + "set(4, 5)", "least(100000, ?)", 5, 13, "UNKNOWN");
    BOOK.bounds(ONE + "set(4, 13)", "least(100000, ?)", 13, 13, "UNKNOWN");
    for (int m = 0; m < 6; m++) {
      BOOK.run("least(" + TENS[m] + ", 0) = UNKNOWN; least(999999, 0) = UNKNOWN; meal(" + m + ", 1, 0, 1); least("
          + TENS[m] + ", 0) = 44; least(" + (111111 - TENS[m]) + ", 13) = UNKNOWN; least(999999, 13) = UNKNOWN");
    }
    BOOK.run("meal(0, 1, 0, 1); meal(1, 1, 0, 1); least(930000, 13) = 528; least(940000, 13) = FULL; "
        + "least(940000, 0) = FULL; least(930000, 0) = NONE; least(990000, 13) = FULL; least(940001, 13) = UNKNOWN; "
        + "least(940000, 14) = UNKNOWN"
        + "; set(4, 1); least(940000, 0) = UNKNOWN");
    BOOK.run("meal(0, 1, 0, 100); meal(1, 1, 0, 100); set(1, 60); least(930000, 13) = NONE; least(940000, 13) = FULL");
    BOOK.words("least: They change nothing");
    BOOK.changesNothing(ONE + "pad a; set(4, 3)", "least(-1, 5) = OUTSIDE; least(0, 14) = UNKNOWN; least(0, 2) = UNKNOWN; "
        + "least(1, 5) = UNKNOWN; least(900000, 5) = NONE");
    BOOK.changesNothing(SIX + "pad a", "least(940000, 5) = FULL; least(999999, 5) = FULL");
  }

  private static void ends() {
    BOOK.words("the first DAY on which so much is not LEFT");
    BOOK.run(ONE + "set(0, 0); ends(0) = 0; set(0, 43); ends(0) = 0; set(0, 44); ends(0) = 1; set(0, 87); ends(0) = 1; "
        + "set(0, 88); ends(0) = 2; set(0, 571); ends(0) = 12; set(0, 572); ends(0) = 13; set(0, 615); ends(0) = 13");
    BOOK.run(ONE + "day(1, 4, false); set(0, 131); ends(0) = 1; set(0, 132); ends(0) = 2; day(2, 1, true); set(0, 186); "
        + "ends(0) = 2; set(0, 187); ends(0) = 3; set(3, 1); set(0, 153); ends(0) = 2; set(0, 154); ends(0) = 3");
    BOOK.words("NONE: it lasts to DAY 13");
    BOOK.run(ONE + "set(0, 615); ends(0) = 13; set(0, 616); ends(0) = NONE; set(0, 4000); ends(0) = NONE");
    BOOK.words("a MEAL being boiled once each DAY, from the one that it is on");
    BOOK.run(ONE + "day(0, 4, false); set(4, 5); set(0, 43); ends(0) = 5; set(0, 44); ends(0) = 6; set(4, 13); set(0, 43); "
        + "ends(0) = 13; set(0, 44); ends(0) = NONE; set(4, 12); ends(0) = 13; set(0, 88); ends(0) = NONE; set(0, 0); "
        + "ends(0) = 12");
    BOOK.run("meal(5, 4, 60, 1); set(0, 4000); ends(5) = NONE; set(0, 3303); ends(5) = 13; set(0, 235); ends(5) = 0");
  }

  private static void endsRefused() {
    BOOK.words("Promise 17: UNKNOWN");
    BOOK.bounds(SIX, "ends(?)", 0, 5, "UNKNOWN");
    BOOK.run("ends(0) = UNKNOWN; ends(5) = UNKNOWN; meal(2, 1, 0, 1); ends(2); ends(1) = UNKNOWN; ends(3) = UNKNOWN; "
        + "set(1, 60); ends(1) = UNKNOWN; ends(6) = UNKNOWN");
    BOOK.words("Promise 17: STATE: it does not boil hot enough");
    BOOK.run("meal(0, 1, 0, 81); set(1, 59); ends(0) = NONE; set(1, 60); ends(0) = STATE; set(0, 0); ends(0) = STATE; "
        + "meal(0, 1, 0, 80); ends(0) = 0");
    BOOK.words("ends: They change nothing");
    BOOK.changesNothing("meal(0, 1, 0, 100); set(1, 60); pad a", "ends(1) = UNKNOWN; ends(-1) = UNKNOWN; ends(6) = UNKNOWN; "
        + "ends(MIN) = UNKNOWN; ends(MAX) = UNKNOWN; ends(0) = STATE");
  }

  private static void mark() {
    BOOK.words("MARK: how high the can floats: LEFT by 200 (cut)");
    StringBuilder steps = new StringBuilder("mark() = 4");
    for (int m = 0; m <= 20; m++) {
      steps.append("; set(0, " + 200 * m + "); mark() = " + m);
      steps.append(m < 20 ? "; set(0, " + (200 * m + 199) + "); mark() = " + m : "");
    }
    BOOK.run(steps.toString());
  }

  private static void keep() {
    BOOK.words("KEEP: how much must be LEFT when DAY d ends so that a MEAL can be boiled of SNOW once on each DAY behind it, to DAY 13");
    StringBuilder steps = new StringBuilder("meal(0, 1, 10, 100)");
    for (int d = 0; d < 14; d++) {
      steps.append("; keep(0, " + d + ") = " + 98 * (13 - d));
    }
    BOOK.run(steps.toString());
    // One DAY after the other has WIND; it counts for those ahead of it alone.
    BOOK.run("meal(5, 1, 0, 1); day(0, 4, true); keep(5, 0) = 1144; day(1, 1, false); keep(5, 0) = 1166; keep(5, 1) = 1056; "
        + "day(13, 4, false); keep(5, 12) = 176; keep(5, 13) = 0; keep(5, 1) = 1144"
        + "; set(3, 1); keep(5, 12) = 132; keep(5, 0) = 1188");
    // Whatever is LEFT, whichever DAY it is, more than the can holds.
    String windy = "meal(0, 4, 60, 100); set(0, 0); set(1, 60); set(4, 13)";
    for (int d = 0; d < 14; d++) {
      windy += "; day(" + d + ", 4, true)";
    }
    BOOK.run(windy + "; keep(0, 0) = 9932; keep(0, 12) = 764; keep(0, 13) = 0");
  }

  private static void keepRefused() {
    BOOK.words("Promise 19: UNKNOWN: both");
    BOOK.bounds(SIX, "keep(?, 0)", 0, 5, "UNKNOWN");
    BOOK.bounds(SIX, "keep(0, ?)", 0, 13, "UNKNOWN");
    BOOK.run("keep(0, 0) = UNKNOWN; keep(5, 13) = UNKNOWN; meal(2, 1, 0, 1); keep(2, 13) = 0; keep(1, 13) = UNKNOWN; "
        + "keep(3, 13) = UNKNOWN; keep(2, 14) = UNKNOWN; keep(6, 14) = UNKNOWN; keep(MIN, MAX) = UNKNOWN");
    BOOK.words("keep: They change nothing");
    BOOK.changesNothing(ONE + "pad a", "keep(1, 0) = UNKNOWN; keep(6, 0) = UNKNOWN; keep(-1, 0) = UNKNOWN; "
        + "keep(0, 14) = UNKNOWN; keep(0, -1) = UNKNOWN; keep(0, MIN) = UNKNOWN; keep(MAX, 0) = UNKNOWN; keep(0, 0)");
  }
}
