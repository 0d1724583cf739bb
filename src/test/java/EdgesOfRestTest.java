/** The end of part 4 of the document's Terms and promises 26 to 30: each sentence that names an edge by a test of its own. */
public final class EdgesOfRestTest {
  private static final Book BOOK = new Book("EdgesOfRestTest");
  /** MEAL 0 costs 44, without WIND. */
  private static final String ONE = "meal(0, 1, 0, 1); ";
  private static final String SIX = "meal(0, 1, 0, 1); meal(1, 2, 10, 1); meal(2, 3, 20, 1); meal(3, 4, 30, 1); "
      + "meal(4, 1, 60, 1); meal(5, 2, 0, 1); ";
  private static final int[] QUARTS = {1, 2, 3, 4, 1, 2};
  private static final int[] MINUTES = {0, 10, 20, 30, 60, 0};

  public static void main(String[] args) {
    sharesPortions();
    sharesDealt();
    sharesRefused();
    weekDraws();
    weekCanBe();
    weekRefused();
    image();
    restore();
    imagesRefused();
    told();
    toldRefused();
    BOOK.close();
  }

  private static void sharesPortions() {
    BOOK.words("as many portions yet as LEFT by what a MEAL costs today (cut");
    // The first has drunk least by far and gets all.
    BOOK.run(ONE + "set(0, 0); shares(0, 999999, 0) = 0; set(0, 43); shares(0, 999999, 0) = 0; set(0, 44); "
        + "shares(0, 999999, 0) = 1; set(0, 87); shares(0, 999999, 0) = 1; set(0, 88); shares(0, 999999, 0) = 2"
        + "; set(0, 3959); shares(0, 999999, 0) = 89; set(0, 4000); shares(0, 999999, 0) = 90");
    BOOK.run(ONE + "day(0, 4, false); day(13, 1, false); set(0, 175); shares(0, 999999, 0) = 1; set(4, 1); "
        + "shares(0, 999999, 0) = 3; set(4, 13); shares(0, 999999, 0) = 3; set(0, 164); shares(0, 999999, 0) = 2; set(3, 1)"
        + "; shares(0, 999999, 0) = 3; set(4, 0); shares(0, 999999, 0) = 2");
    BOOK.run("meal(5, 4, 60, 1); set(0, 235); shares(5, 999999, 0) = 0; set(0, 236); shares(5, 999999, 0) = 1; set(0, 4000); "
        + "shares(5, 999999, 0) = 16");
    BOOK.words("whether it boils hot enough or not");
    BOOK.run("meal(0, 1, 0, 100); set(1, 60); set(0, 88); shares(0, 999999, 0) = 2");
  }

  private static void sharesDealt() {
    BOOK.words("to who has had least so far, with what he drank (of several the least)");
    for (int portions = 0; portions <= 9; portions++) {
      StringBuilder steps = new StringBuilder(ONE + "set(0, " + 44 * portions + ")");
      for (int h = 0; h < 4; h++) {
        steps.append("; shares(0, 0, " + h + ") = " + (portions + 3 - h) / 4);
        steps.append("; shares(0, 99999999, " + h + ") = " + (portions + 3 - h) / 4);
      }
      BOOK.run(steps.toString());
    }
    // 3, 0, 2, 0 had: the second and the last get two each, then the second, third and last one more by turns.
    BOOK.run(ONE + "set(0, 176); shares(0, 3000200, 0) = 0; shares(0, 3000200, 1) = 2; shares(0, 3000200, 2) = 0; "
        + "shares(0, 3000200, 3) = 2; set(0, 220); shares(0, 3000200, 1) = 3; shares(0, 3000200, 3) = 2"
        + "; set(0, 264); shares(0, 3000200, 2) = 1; set(0, 308); shares(0, 3000200, 3) = 3; shares(0, 3000200, 0) = 0; "
        + "set(0, 352); shares(0, 3000200, 0) = 1; shares(0, 3000200, 1) = 3");
    BOOK.words("they are dealt, one by one");
    BOOK.run(ONE + "set(0, 132); shares(0, 2, 0) = 1; shares(0, 2, 1) = 1; shares(0, 2, 2) = 1; shares(0, 2, 3) = 0; "
        + "shares(0, 5, 3) = 0; set(0, 264); shares(0, 2, 0) = 2; shares(0, 2, 2) = 2; shares(0, 2, 3) = 0; set(0, 440); "
        + "shares(0, 2, 3) = 1; shares(0, 2, 0) = 3");
    BOOK.words("hikers 0 to 3 have drunk so much cocoa each (0 to 99)");
    BOOK.run(ONE + "set(0, 4000); shares(0, 99000000, 0) = 0; shares(0, 99000000, 1) = 30; shares(0, 990000, 1) = 0; "
        + "shares(0, 990000, 0) = 30; shares(0, 9900, 2) = 0; shares(0, 9900, 3) = 30; shares(0, 99, 3) = 0; "
        + "shares(0, 99, 2) = 30");
    BOOK.words("Promise 26: what a hiker (0 to 3) gets, four having drunk so much (a number to a hundred, the highest the first's)");
    BOOK.run(ONE + "set(0, 44); shares(0, 1, 0) = 1; shares(0, 1000000, 0) = 0; shares(0, 1000000, 1) = 1; "
        + "shares(0, 1010000, 2) = 1; shares(0, 1010100, 3) = 1; shares(0, 1010101, 0) = 1");
  }

  private static void sharesRefused() {
    BOOK.words("Promise 26: UNKNOWN: the MEAL, the hiker");
    BOOK.bounds(SIX, "shares(?, 0, 0)", 0, 5, "UNKNOWN");
    BOOK.bounds(SIX, "shares(0, 0, ?)", 0, 3, "UNKNOWN");
    BOOK.run("shares(0, 0, 0) = UNKNOWN; shares(5, 0, 3) = UNKNOWN; meal(2, 1, 0, 1); shares(2, 0, 0); "
        + "shares(1, 0, 0) = UNKNOWN; shares(3, 0, 0) = UNKNOWN");
    BOOK.words("Promise 26: OUTSIDE: 0 to 99999999");
    BOOK.bounds(SIX, "shares(0, ?, 0)", 0, 99999999, "OUTSIDE");
    BOOK.run(ONE + "shares(1, -1, 0) = UNKNOWN; shares(0, -1, 4) = UNKNOWN; shares(0, 100000000, -1) = UNKNOWN; "
        + "shares(6, MAX, 9) = UNKNOWN; shares(MIN, MIN, MIN) = UNKNOWN; shares(MAX, MAX, MAX) = UNKNOWN; "
        + "shares(0, MIN, 0) = OUTSIDE");
    BOOK.run("shares(0, -1, 0) = UNKNOWN; shares(0, 100000000, 0) = UNKNOWN");
    BOOK.words("shares: They change nothing");
    BOOK.changesNothing(ONE + "pad a", "shares(1, 0, 0) = UNKNOWN; shares(6, 0, 0) = UNKNOWN; shares(-1, 0, 0) = UNKNOWN; "
        + "shares(0, 0, 4) = UNKNOWN; shares(0, 0, -1) = UNKNOWN; shares(0, -1, 0) = OUTSIDE; "
        + "shares(0, 100000000, 0) = OUTSIDE; shares(0, 5, 0)");
  }

  /** What a WEEK answers, with six MEALS that are all hot enough. */
  private static long[] lived(int left, int seed, int m) {
    long[] told = {left, 0, 0};
    long x = seed;
    for (int draw = 0; draw < 2 * m; draw++) {
      x = (75 * x + 74) % 65537;
      int meal = (int) (x % 6);
      long boil = 44L * QUARTS[meal] * (x / 6 % 2 + 1) + MINUTES[meal];
      if (boil <= told[0]) {
        told[0] -= boil;
        told[1]++;
      } else {
        told[2]++;
      }
    }
    return told;
  }

  private static int seedOf(int meal) {
    for (int seed = 0; seed <= 9999; seed++) {
      long x = (75L * seed + 74) % 65537;
      if (x % 6 == meal && (75 * x + 74) % 65537 % 6 == meal) {
        return seed;
      }
    }
    throw new IllegalStateException("no seed draws MEAL " + meal + " twice");
  }

  private static String weekSteps(int left, int seed, int m) {
    long[] due = lived(left, seed, m);
    String week = "week(" + seed + ", " + m + ", ";
    return "; set(0, " + left + "); " + week + "0) = " + due[0] + "; " + week + "1) = " + due[1] + "; " + week + "2) = "
        + due[2];
  }

  private static void weekDraws() {
    BOOK.words("A WEEK by a seed (0 to 9999) of m DAYS (1 to 50)");
    // The seed 0 draws 74 (2, by 6: 12) and 5624 (2, 937): 132 and 20, then 264 and 20 of SNOW.
    BOOK.run(SIX + "week(0, 1, 0) = 364; week(0, 1, 1) = 2; week(0, 1, 2) = 0");
    // The seed 9999 draws 29092 (4, by 6: 4848) and 19253 (5, 3208): 44 and 60, then 88.
    BOOK.run(SIX + "week(9999, 1, 0) = 608; week(9999, 1, 1) = 2; week(9999, 1, 2) = 0");
    int[] seeds = {0, 1, 873, 874, 5000, 9998, 9999};
    int[] lefts = {0, 43, 44, 800, 4000};
    for (int seed : seeds) {
      for (int left : lefts) {
        BOOK.run(SIX + weekSteps(left, seed, 1) + weekSteps(left, seed, 2) + weekSteps(left, seed, 7)
            + weekSteps(left, seed, 49) + weekSteps(left, seed, 50));
      }
    }
    BOOK.words("each DAY twice x becomes (75 x and 74) left over by 65537");
    StringBuilder steps = new StringBuilder(SIX);
    // 873 makes 65549, which is 12 more than 65537; 872 makes 65474.
    for (int seed = 868; seed <= 878; seed++) {
      steps.append(weekSteps(4000, seed, 1));
    }
    BOOK.run(steps.toString());
    BOOK.words("MEAL x left over by 6 is boiled");
    // Seeds whose two draws are both of one MEAL, that one alone being there.
    for (int m = 0; m < 6; m++) {
      int seed = seedOf(m);
      BOOK.run("meal(" + m + ", 1, 0, 1); week(" + seed + ", 1, 1) = 2; set(0, 0); week(" + seed + ", 1, 2) = 2");
      BOOK.run("meal(" + (m + 1) % 6 + ", 1, 0, 1); week(" + seed + ", 1, 1) = 0; set(0, 0); week(" + seed + ", 1, 2) = 0");
    }
    BOOK.words("of SNOW, if x by 6 (cut) is odd");
    // The seed 1 draws 149 (5, by 6: 24) and 11249 (5, 1874): neither is of SNOW.
    // The seed 3 draws 299 (5, 49) and 22499 (5, 3749): both are.
    BOOK.run("meal(5, 1, 6, 1); week(1, 1, 0) = 700; week(3, 1, 0) = 612");
    BOOK.words("all without WIND");
    String windy = "";
    for (int d = 0; d < 14; d++) {
      windy += "day(" + d + ", 4, true); ";
    }
    BOOK.run("meal(5, 1, 6, 1); " + windy + "week(1, 1, 0) = 700; set(3, 1); week(1, 1, 0) = 700; set(4, 13); "
        + "week(1, 1, 0) = 700; told(5) = 13; told(1) = 800");
  }

  private static void weekCanBe() {
    BOOK.words("if it can be");
    BOOK.run("week(0, 50, 0) = 800; week(0, 50, 1) = 0; week(0, 50, 2) = 0; week(9999, 50, 0) = 800");
    BOOK.run("meal(5, 1, 6, 1); set(0, 100); week(1, 1, 0) = 0; week(1, 1, 1) = 2; week(1, 1, 2) = 0; set(0, 99); "
        + "week(1, 1, 0) = 49; week(1, 1, 1) = 1; week(1, 1, 2) = 1; set(0, 49); week(1, 1, 0) = 49; week(1, 1, 1) = 0; "
        + "week(1, 1, 2) = 2"
        + "; set(0, 0); week(1, 1, 0) = 0; week(1, 1, 2) = 2");
    BOOK.words("what could not be for want of gas alone");
    BOOK.run("meal(5, 1, 6, 81); set(1, 59); set(0, 0); week(1, 1, 2) = 2; set(1, 60); week(1, 1, 2) = 0; week(1, 1, 1) = 0; "
        + "week(1, 1, 0) = 0; meal(5, 1, 6, 80); week(1, 1, 2) = 2");
    BOOK.run("meal(4, 1, 6, 1); set(0, 0); week(1, 1, 2) = 0; set(0, 800); week(1, 1, 0) = 800; week(1, 1, 1) = 0");
  }

  private static void weekRefused() {
    BOOK.words("Promise 27: OUTSIDE");
    BOOK.bounds(SIX, "week(?, 1, 0)", 0, 9999, "OUTSIDE");
    BOOK.bounds(SIX, "week(0, ?, 0)", 1, 50, "OUTSIDE");
    BOOK.bounds(SIX, "week(0, 1, ?)", 0, 2, "OUTSIDE");
    BOOK.run("week(-1, 0, 3) = OUTSIDE; week(MIN, MIN, MIN) = OUTSIDE; week(MAX, MAX, MAX) = OUTSIDE");
    BOOK.words("Promise 27: LEFT (what = 0), MEALS (1), not (2)");
    BOOK.run("meal(5, 1, 6, 1); set(0, 99); week(1, 1, 0) = 49; week(1, 1, 1) = 1; week(1, 1, 2) = 1; told(1) = 99; "
        + "told(5) = 0");
    BOOK.words("week: They change nothing");
    BOOK.changesNothing(SIX + "pad a", "week(-1, 1, 0) = OUTSIDE; week(10000, 1, 0) = OUTSIDE; week(0, 0, 0) = OUTSIDE; "
        + "week(0, 51, 0) = OUTSIDE; week(0, 1, 3) = OUTSIDE; week(0, 1, -1) = OUTSIDE; week(9, 50, 0)");
  }

  private static final String FURNISH = "meal(0, 1, 2, 3); meal(5, 4, 60, 100); set(0, 4000); set(1, 60); set(2, 6); "
      + "set(3, 1); set(4, 13)"
      + "; day(0, 4, true); day(6, 1, false); day(13, 3, true); seen(0, 20); seen(1, 19)";
  private static final String FURNISHED = "told(1) = 4000; told(2) = 60; told(3) = 6; told(4) = 1; told(5) = 13; "
      + "told(6) = 33; told(7) = 2; told(8) = 80; told(20) = 14; told(26) = 1; told(33) = 13; told(21) = 0"
      + "; told(100) = 1; told(101) = 2; told(102) = 3; told(600) = 4; told(601) = 60; told(602) = 100; told(200) = OUTSIDE";
  private static final String OTHERWISE = "meal(0, 4, 4, 4); meal(1, 1, 1, 1); meal(5, 1, 1, 1); set(0, 0); set(1, 0); "
      + "set(2, 0); set(3, 0); set(4, 0)"
      + "; day(0, 0, false); day(6, 0, true); day(13, 0, false); day(1, 2, true); forget(); seen(60, 0)";
  private static final String IS_OTHERWISE = "told(1) = 0; told(2) = 0; told(3) = 0; told(4) = 0; told(5) = 0; told(6) = 35; "
      + "told(7) = 1; told(8) = 100; told(20) = 0; told(26) = 10; told(33) = 0; told(21) = 12"
      + "; told(100) = 4; told(200) = 1; told(600) = 1";

  private static void image() {
    BOOK.words("Promise 28: All but the PAD is kept in an IMAGE (0, 1): 1");
    for (int k = 0; k < 2; k++) {
      BOOK.run(FURNISH + "; image(" + k + ") = 1; " + OTHERWISE + "; " + IS_OTHERWISE + "; restore(" + k + ") = 1; "
          + FURNISHED + "; restore(" + (1 - k) + ") = STATE");
    }
    // Each DAY and each MEAL by itself.
    StringBuilder keep = new StringBuilder();
    StringBuilder change = new StringBuilder();
    StringBuilder due = new StringBuilder();
    for (int d = 0; d < 14; d++) {
      keep.append("day(" + d + ", " + d % 5 + ", " + (d % 2 == 0) + "); ");
      change.append("day(" + d + ", " + (d + 1) % 5 + ", " + (d % 2 == 1) + "); ");
      due.append("told(" + (20 + d) + ") = " + (d % 5 + (d % 2 == 0 ? 10 : 0)) + "; ");
    }
    for (int m = 0; m < 6; m++) {
      keep.append("meal(" + m + ", " + (1 + m % 4) + ", " + m + ", " + (m + 1) + "); ");
      change.append("meal(" + m + ", " + (1 + (m + 1) % 4) + ", " + (m + 9) + ", " + (m + 11) + "); ");
      due.append("told(" + (100 * m + 100) + ") = " + (1 + m % 4) + "; told(" + (100 * m + 101) + ") = " + m + "; told("
          + (100 * m + 102) + ") = " + (m + 1) + "; ");
    }
    BOOK.run(keep + "image(1) = 1; " + change + "restore(1) = 1; " + due + "told(6) = 63");
    // An IMAGE may be kept over another one, of a new object too; each is apart from the other.
    BOOK.run("image(0) = 1; " + FURNISH + "; image(1) = 1; restore(0) = 1; told(1) = 800; told(5) = 0; told(6) = 0; "
        + "told(7) = 0; told(20) = 0; told(100) = OUTSIDE; restore(1) = 1; " + FURNISHED + "; image(0) = 1; set(0, 0); "
        + "restore(0) = 1; told(1) = 4000");
    // The eight SIGHTS, each with its number: with one of them otherwise there would be no LEAKS.
    String sights = "";
    for (int i = 1; i <= 8; i++) {
      sights += "seen(" + i + ", " + (i <= 4 ? 4 : 3) + "); ";
    }
    BOOK.run("pad ~~~~~~~~; " + sights + "leaks(-1) = 20; leaks(0) = 4001; image(0); forget(); " + "seen(60, 0); ".repeat(8)
        + "leaks(-1) = 0; restore(0); told(7) = 8; leaks(-1) = 20; leaks(0) = 4001; seen(0, 4) = FULL");
    BOOK.words("Promise 28: All but the PAD");
    BOOK.run(ONE + "pad a!; image(0) = 1; told(0) = 2; pad aa; restore(0) = 1; told(0) = 2; judge(3) = 2; wipe() = 2; "
        + "restore(0) = 1; told(0) = 0");
    BOOK.run("image(0) = 1; pad " + "~".repeat(60) + "; restore(0) = 1; told(0) = 60; say(126) = FULL; wipe() = 60");
  }

  private static void restore() {
    BOOK.words("Promise 29: It is as it was when it was kept: 1");
    BOOK.run(FURNISH + "; image(0); restore(0) = 1; " + FURNISHED + "; set(0, 1); restore(0) = 1; told(1) = 4000; "
        + "restore(0) = 1; told(1) = 4000");
    // What is changed behind it does not change the IMAGE.
    BOOK.run(FURNISH + "; image(1); restore(1); " + OTHERWISE + "; restore(1) = 1; " + FURNISHED);
    BOOK.run(ONE + "day(1, 0, true); image(0); pad a~.; done() = 3; told(1) = 756; told(5) = 1; restore(0) = 1; "
        + "told(1) = 800; told(5) = 0; pad .; behind(2) = 1");
    BOOK.run(ONE + "day(1, 0, true); pad ~.; done() = 2; behind(2) = 0; image(0); pad .; done(); restore(0) = 1; "
        + "told(5) = 1; behind(2) = 0");
    BOOK.run(ONE + "day(1, 0, true); pad ~; done() = 1; image(0); pad .; done(); behind(2) = 0; restore(0) = 1; told(5) = 0; "
        + "pad .; behind(2) = 0; image(1); pad .; done(); restore(1) = 1; pad .; behind(2) = 0");
  }

  private static void imagesRefused() {
    BOOK.words("Promise 28: OUTSIDE");
    BOOK.bounds(ONE, "image(?)", 0, 1, "OUTSIDE");
    BOOK.words("Promise 29: OUTSIDE");
    BOOK.bounds("image(0); image(1)", "restore(?)", 0, 1, "OUTSIDE");
    BOOK.run("restore(2) = OUTSIDE; restore(-1) = OUTSIDE; restore(MIN) = OUTSIDE; restore(MAX) = OUTSIDE");
    BOOK.words("Promise 29: STATE: it was not");
    BOOK.run("restore(0) = STATE; restore(1) = STATE; image(2) = OUTSIDE; restore(0) = STATE; restore(1) = STATE; "
        + "image(0) = 1; restore(1) = STATE; restore(0) = 1; image(1) = 1; restore(1) = 1");
    BOOK.run("image(1) = 1; restore(0) = STATE; restore(1) = 1; restore(0) = STATE");
    BOOK.words("image, restore: They change nothing");
    BOOK.changesNothing(FURNISH, "image(-1) = OUTSIDE; image(2) = OUTSIDE; image(MIN) = OUTSIDE; image(MAX) = OUTSIDE; "
        + "restore(-1) = OUTSIDE; restore(2) = OUTSIDE; restore(0) = STATE; restore(1) = STATE");
    BOOK.changesNothing(FURNISH + "; image(0); image(1); " + OTHERWISE, "image(-1) = OUTSIDE; image(2) = OUTSIDE; "
        + "image(MIN) = OUTSIDE; image(MAX) = OUTSIDE; restore(-1) = OUTSIDE; restore(2) = OUTSIDE; restore(MIN) = OUTSIDE; "
        + "restore(MAX) = OUTSIDE");
    BOOK.changesNothing(FURNISH + "; image(1); " + OTHERWISE + "; pad ~", "restore(0) = STATE");
    BOOK.changesNothing(FURNISH + "; image(0); " + OTHERWISE + "; pad ~", "restore(1) = STATE");
  }

  private static void told() {
    BOOK.words("Promise 30: 0 signs");
    BOOK.run("told(0) = 0; say(33); told(0) = 1; " + "say(126); ".repeat(59) + "told(0) = 60; say(97) = FULL; told(0) = 60; "
        + "wipe(); told(0) = 0");
    BOOK.words("Promise 30: 1 LEFT, 2 HEIGHT, 3 SHUT, 4 SHIELD, 5 the DAY");
    BOOK.run("set(0, 4000); set(1, 60); set(2, 6); set(3, 1); set(4, 13); told(1) = 4000; told(2) = 60; told(3) = 6; "
        + "told(4) = 1; told(5) = 13");
    BOOK.run("set(0, 0); told(1) = 0; told(2) = 0; told(3) = 0; told(4) = 0; told(5) = 0");
    BOOK.words("Promise 30: 6 MEALS (bits)");
    BOOK.run("told(6) = 0; meal(0, 1, 0, 1); told(6) = 1; meal(5, 1, 0, 1); told(6) = 33; meal(2, 1, 0, 1); told(6) = 37; "
        + "meal(1, 1, 0, 1); meal(3, 1, 0, 1); meal(4, 1, 0, 1); told(6) = 63");
    BOOK.words("Promise 30: 7 SIGHTS");
    BOOK.run("told(7) = 0; seen(60, 20); told(7) = 1; " + "seen(0, 0); ".repeat(7) + "told(7) = 8; seen(0, 0) = FULL; "
        + "told(7) = 8; forget(); told(7) = 0");
    BOOK.words("Promise 30: 8 degrees at which water boils");
    BOOK.run("told(8) = 100; set(1, 2); told(8) = 100; set(1, 3); told(8) = 99; set(1, 59); told(8) = 81; set(1, 60); "
        + "told(8) = 80");
    BOOK.words("Promise 30: 20 and a DAY: WIND, and 10, if it is COLD");
    BOOK.run("day(0, 0, true); told(20) = 10; day(0, 4, true); told(20) = 14; day(0, 4, false); told(20) = 4; "
        + "day(13, 0, true); told(33) = 10; day(13, 4, true); told(33) = 14; told(21) = 0; told(32) = 0");
    BOOK.words("Promise 30: 100 times (1 and a MEAL that there is) and 0 QUARTS, 1 MINUTES, 2 DEGREES");
    for (int m = 0; m < 6; m++) {
      int hundred = 100 * (m + 1);
      BOOK.run("meal(" + m + ", 4, 60, 100); told(" + hundred + ") = 4; told(" + (hundred + 1) + ") = 60; told("
          + (hundred + 2) + ") = 100; meal(" + m + ", 1, 0, 1); told(" + hundred + ") = 1; told(" + (hundred + 1)
          + ") = 0; told(" + (hundred + 2) + ") = 1");
    }
  }

  private static void toldRefused() {
    BOOK.words("Promise 30: OUTSIDE");
    for (int from = -100; from < 1100; from += 400) {
      StringBuilder all = new StringBuilder(SIX);
      StringBuilder none = new StringBuilder();
      for (int what = from; what < from + 400; what++) {
        boolean plain = what >= 0 && what <= 8 || what >= 20 && what <= 33;
        boolean ofMeal = what >= 100 && what < 700 && what % 100 <= 2;
        all.append("; told(" + what + ")" + (plain || ofMeal ? "" : " = OUTSIDE"));
        none.append("; told(" + what + ")" + (plain ? "" : " = OUTSIDE"));
      }
      BOOK.run(all.toString()).run(none.toString());
    }
    BOOK.run(SIX + "told(MIN) = OUTSIDE; told(MAX) = OUTSIDE; told(65536) = OUTSIDE; told(65636) = OUTSIDE; "
        + "told(-100) = OUTSIDE; told(-2147483548) = OUTSIDE; told(256) = OUTSIDE");
    for (int m = 0; m < 6; m++) {
      StringBuilder others = new StringBuilder("meal(" + m + ", 1, 0, 1)");
      for (int other = 0; other < 6; other++) {
        for (int k = 0; k < 3; k++) {
          others.append("; told(" + (100 * other + 100 + k) + ")" + (other == m ? "" : " = OUTSIDE"));
        }
      }
      BOOK.run(others.toString());
    }
    BOOK.words("told: They change nothing");
    BOOK.changesNothing(FURNISH + "; pad ~", "told(-1) = OUTSIDE; told(9) = OUTSIDE; told(19) = OUTSIDE; told(34) = OUTSIDE; "
        + "told(99) = OUTSIDE; told(103) = OUTSIDE; told(200) = OUTSIDE; told(700) = OUTSIDE; told(MIN) = OUTSIDE; "
        + "told(MAX) = OUTSIDE");
  }
}
