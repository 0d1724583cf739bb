/** Part 1 of the document's Terms and promises 1 to 7: each sentence that names an edge by a test of its own. */
public final class EdgesOfDaysTest {
  private static final Book BOOK = new Book("EdgesOfDaysTest");

  public static void main(String[] args) {
    constants();
    gas();
    days();
    height();
    shop();
    mealsThereAre();
    mealNumbers();
    prices();
    signs();
    acts();
    faults();
    reasons();
    bag();
    newObject();
    set();
    day();
    meal();
    say();
    wipe();
    fault();
    BOOK.close();
  }

  private static void constants() {
    BOOK.words("UNKNOWN = -1").due("UNKNOWN", OneCan.UNKNOWN, -1);
    BOOK.words("OUTSIDE = -2").due("OUTSIDE", OneCan.OUTSIDE, -2);
    BOOK.words("STATE = -3").due("STATE", OneCan.STATE, -3);
    BOOK.words("FULL = -4").due("FULL", OneCan.FULL, -4);
    BOOK.words("NO = -5").due("NO", OneCan.NO, -5);
    BOOK.words("NONE = -6").due("NONE", OneCan.NONE, -6);
    BOOK.words("GONE = -1000000000000000000L").due("GONE", OneCan.GONE, -1000000000000000000L);
  }

  private static void gas() {
    BOOK.words("800 at first").run("told(1) = 800; behind(0) = 800; mark() = 4");
    BOOK.words("LEFT: 0 to 4000");
    BOOK.bounds("", "set(0, ?)", 0, 4000, "OUTSIDE");
    BOOK.run("set(0, 0) = 800; told(1) = 0; set(0, 4000) = 0; told(1) = 4000; set(0, 4001) = OUTSIDE; told(1) = 4000"
        + "; set(0, 1) = 4000; set(0, 3999) = 1; set(0, -1) = OUTSIDE; told(1) = 3999");
    BOOK.words("$ (the shop: LEFT is 1000 more, 4000 at most)");
    int[] lefts = {0, 1, 2999, 3000, 3001, 3999, 4000};
    for (int left : lefts) {
      BOOK.run("set(2, 6); set(0, " + left + "); pad $; behind(0) = " + Math.min(left + 1000, 4000) + "; judge(2) = 0"
          + "; done() = 1; told(1) = " + Math.min(left + 1000, 4000));
    }
    BOOK.run("set(2, 6); pad $$$$; behind(0) = 4000; pad $$$; behind(0) = 3800; pad $$$$$$$$; behind(0) = 4000");
  }

  private static void days() {
    BOOK.words("DAYS 0 to 13");
    BOOK.bounds("", "day(?, 0, false)", 0, 13, "UNKNOWN");
    BOOK.bounds("", "set(4, ?)", 0, 13, "OUTSIDE");
    StringBuilder apart = new StringBuilder();
    for (int d = 0; d < 14; d++) {
      apart.append("\nday(" + d + ", " + d % 5 + ", " + (d % 3 == 0) + ") = 0");
    }
    for (int d = 0; d < 14; d++) {
      apart.append("\ntold(" + (20 + d) + ") = " + (d % 5 + (d % 3 == 0 ? 10 : 0)));
    }
    BOOK.run(apart.toString());
    BOOK.words("each with WIND (0 to 4; 0 at first)");
    BOOK.bounds("", "day(0, ?, false)", 0, 4, "OUTSIDE");
    BOOK.bounds("", "day(13, ?, true)", 0, 4, "OUTSIDE");
    for (int d = 0; d < 14; d++) {
      BOOK.run("meal(0, 1, 0, 1); told(" + (20 + d) + ") = 0; plain(0, " + d + ", 0) = 44; day(" + d + ", 4, false) = 0"
          + "; plain(0, " + d + ", 0) = 88; told(" + (20 + d) + ") = 4");
    }
    BOOK.words("COLD or not (not, at first)");
    for (int d = 0; d < 14; d++) {
      BOOK.run("meal(0, 1, 0, 1); set(4, " + d + "); behind(2) = 0; pad ah; judge(0) = NONE; day(" + d + ", 0, true) = 0"
          + "; behind(2) = STATE; judge(1) = 3; pad; behind(2) = 1; day(" + d + ", 0, false); behind(2) = 0");
    }
    BOOK.words("It is DAY 0 at first").run("told(5) = 0; behind(1) = 0; set(4, 0) = 0");
  }

  private static void height() {
    BOOK.words("HEIGHT (0 to 60 hundreds of metres; 0 at first)");
    BOOK.run("told(2) = 0; told(8) = 100; set(1, 0) = 0");
    BOOK.bounds("", "set(1, ?)", 0, 60, "OUTSIDE");
    BOOK.run("set(1, 60) = 0; set(1, 61) = OUTSIDE; told(2) = 60; set(1, -1) = OUTSIDE; told(2) = 60; set(1, 0) = 60; "
        + "told(2) = 0");
    BOOK.words("water boils at 100 less HEIGHT by 3 (cut) degrees");
    StringBuilder all = new StringBuilder("meal(0, 1, 0, 80); pad a");
    for (int h = 0; h <= 60; h++) {
      int boils = 100 - (h - h % 3) / 3;
      all.append("\nset(1, " + h + "); told(8) = " + boils);
      all.append("\nmeal(0, 1, 0, " + boils + "); judge(1) = NONE");
      all.append(boils < 100 ? "\nmeal(0, 1, 0, " + (boils + 1) + "); judge(1) = 2" : "");
    }
    BOOK.run(all.toString());
  }

  private static void shop() {
    BOOK.words("SHUT (0 to 6; 0 at first)");
    BOOK.run("told(3) = 0; pad $; judge(1) = 5; set(2, 0) = 0");
    BOOK.bounds("", "set(2, ?)", 0, 6, "OUTSIDE");
    BOOK.run("set(2, 6) = 0; set(2, 7) = OUTSIDE; told(3) = 6; set(2, -1) = OUTSIDE; told(3) = 6; set(2, 0) = 6; "
        + "told(3) = 0");
    BOOK.words("the shop is shut on DAYS that are left over by 7 as SHUT");
    for (int shut = 0; shut < 7; shut++) {
      StringBuilder steps = new StringBuilder("set(2, " + shut + "); pad $");
      for (int d = 0; d < 14; d++) {
        boolean isShut = d == shut || d == shut + 7;
        steps.append("\nset(4, " + d + "); judge(1) = " + (isShut ? "5" : "NONE"));
      }
      BOOK.run(steps.toString());
    }
    BOOK.run("set(2, 1); pad $.; judge(0) = NONE; pad $.$; judge(0) = 2; judge(1) = 5; pad $..$; judge(0) = NONE");
  }

  private static void mealsThereAre() {
    BOOK.words("MEALS 0 to 5 (a to f)");
    BOOK.bounds("", "meal(?, 1, 0, 1)", 0, 5, "UNKNOWN");
    for (int m = 0; m < 6; m++) {
      StringBuilder steps = new StringBuilder("meal(" + m + ", 1, 0, 1) = 1; told(6) = " + (1 << m));
      for (int other = 0; other < 6; other++) {
        steps.append("\npad " + (char) ('a' + other) + "; judge(1) = " + (other == m ? "NONE" : "1"));
      }
      BOOK.run(steps.toString());
    }
    BOOK.words("some of which there are (none at first)");
    BOOK.run("told(6) = 0; told(100) = OUTSIDE; told(600) = OUTSIDE; pad abcdef; fault() = NONE; judge(0) = 0; judge(1) = 1"
        + "; pad f; judge(1) = 1");
    BOOK.run("meal(0, 1, 0, 1); meal(1, 1, 0, 1); meal(2, 1, 0, 1); meal(3, 1, 0, 1); meal(4, 1, 0, 1); meal(5, 1, 0, 1) = 6"
        + "; told(6) = 63; pad abcdef; judge(0) = NONE; judge(3) = 6; judge(2) = 264");
  }

  private static void mealNumbers() {
    BOOK.words("QUARTS (1 to 4)");
    BOOK.bounds("", "meal(0, ?, 0, 1)", 1, 4, "OUTSIDE");
    BOOK.run("meal(0, 1, 0, 1); told(100) = 1; plain(0, 0, 0) = 44; meal(0, 4, 0, 1); told(100) = 4; plain(0, 0, 0) = 176"
        + "; meal(0, 5, 0, 1) = OUTSIDE; told(100) = 4; meal(0, 0, 0, 1) = OUTSIDE; told(100) = 4");
    BOOK.words("MINUTES (0 to 60) to simmer");
    BOOK.bounds("", "meal(0, 1, ?, 1)", 0, 60, "OUTSIDE");
    BOOK.run("meal(0, 1, 0, 1); told(101) = 0; plain(0, 0, 0) = 44; meal(0, 1, 60, 1); told(101) = 60; plain(0, 0, 0) = 104"
        + "; meal(0, 1, 61, 1) = OUTSIDE; told(101) = 60; meal(0, 1, -1, 1) = OUTSIDE; told(101) = 60");
    BOOK.words("DEGREES (1 to 100) that it must boil at");
    BOOK.bounds("", "meal(0, 1, 0, ?)", 1, 100, "OUTSIDE");
    BOOK.run("pad a; meal(0, 1, 0, 100); told(102) = 100; judge(1) = NONE; set(1, 60); judge(1) = 2; meal(0, 1, 0, 1)"
        + "; told(102) = 1; judge(1) = NONE; meal(0, 1, 0, 101) = OUTSIDE; meal(0, 1, 0, 0) = OUTSIDE; told(102) = 1");
  }

  private static void prices() {
    BOOK.words("11 times QUARTS times the sum of 4");
    BOOK.run("meal(0, 1, 0, 1); plain(0, 0, 0) = 44; meal(0, 2, 0, 1); plain(0, 0, 0) = 88; meal(0, 3, 0, 1); "
        + "plain(0, 0, 0) = 132"
        + "; meal(0, 4, 0, 1); plain(0, 0, 0) = 176");
    BOOK.words("of 1, if there is no lid");
    BOOK.run("meal(0, 3, 9, 1); plain(0, 0, 2) = 174; pad ao; judge(2) = 174; pad a; judge(2) = 141");
    BOOK.words("of the WIND of the DAY");
    BOOK.run("meal(0, 3, 9, 1); day(1, 1, false); day(2, 2, false); day(3, 3, false); day(4, 4, false)"
        + "; plain(0, 0, 0) = 141; plain(0, 1, 0) = 174; plain(0, 2, 0) = 207; plain(0, 3, 0) = 240; plain(0, 4, 0) = 273"
        + "; pad a.a.a.a.a; set(0, 4000); judge(2) = 1035");
    BOOK.words("2 less by a SHIELD, 0 at least");
    BOOK.run("meal(0, 3, 9, 1); day(1, 1, false); day(2, 2, false); day(3, 3, false); day(4, 4, false); set(3, 1) = 0"
        + "; plain(0, 0, 0) = 141; plain(0, 1, 0) = 141; plain(0, 2, 0) = 141; plain(0, 3, 0) = 174; plain(0, 4, 0) = 207"
        + "; pad a.a.a.a.a; set(0, 4000); judge(2) = 804; cost(0, 1) = 0; cost(2, 1) = 0; cost(4, 1) = 0; cost(6, 1) = 33"
        + "; cost(8, 1) = 66");
    BOOK.words("and of 1 on a high flame");
    BOOK.run("meal(0, 3, 0, 1); plain(0, 0, 4) = 165; pad ah; judge(2) = 165");
    BOOK.words("twice that, if the water is SNOW");
    BOOK.run("meal(0, 3, 9, 1); plain(0, 0, 1) = 273; plain(0, 0, 3) = 339; pad as; judge(2) = 273; pad aso; judge(2) = 339");
    BOOK.run("meal(0, 3, 9, 1); day(0, 4, false); plain(0, 0, 1) = 537; plain(0, 0, 3) = 603");
    BOOK.words("to simmer, 1 for each MINUTE (2 on a high flame)");
    BOOK.run("meal(0, 1, 60, 1); plain(0, 0, 0) = 104; plain(0, 0, 4) = 175; plain(0, 0, 1) = 148; plain(0, 0, 5) = 230"
        + "; meal(0, 1, 1, 1); plain(0, 0, 0) = 45; plain(0, 0, 4) = 57; meal(0, 1, 0, 1); plain(0, 0, 4) = 55");
    BOOK.words("or nothing, if it is WRAPPED");
    BOOK.run("meal(0, 1, 60, 1); plain(0, 0, 8) = 44; plain(0, 0, 12) = 55; plain(0, 0, 9) = 88; pad ax; judge(2) = 44; "
        + "pad ahx; judge(2) = 55");
    BOOK.words("To boil a MEAL costs");
    BOOK.run("meal(0, 4, 60, 1); day(0, 4, false); set(0, 4000); pad asoh; judge(2) = 1000; plain(0, 0, 7) = 1000");
  }

  private static void signs() {
    BOOK.words("a PAD of up to 60 signs");
    BOOK.run("say(126); ".repeat(60) + "told(0) = 60; say(126) = FULL; told(0) = 60; wipe() = 60; say(126) = 1");
    BOOK.words("(codes 33 to 126)");
    BOOK.bounds("", "say(?)", 33, 126, "OUTSIDE");
    StringBuilder all = new StringBuilder();
    for (int sign = 33; sign <= 126; sign++) {
      all.append("\nsay(" + sign + ") = " + (sign <= 92 ? sign - 32 : sign - 92) + (sign == 92 ? "\nwipe() = 60" : ""));
    }
    BOOK.run(all.toString());
    BOOK.run("say(0) = OUTSIDE; say(32) = OUTSIDE; say(127) = OUTSIDE; told(0) = 0; fault() = NONE");
  }

  /** Which of all signs may stand behind a text. */
  private static void mayFollow(String text, String right) {
    for (int from = 33; from <= 126; from += 47) {
      StringBuilder steps = new StringBuilder();
      for (int sign = from; sign < from + 47; sign++) {
        boolean may = right.indexOf(sign) >= 0;
        steps.append("\nwipe()");
        for (int i = 0; i < text.length(); i++) {
          steps.append("; say(" + (int) text.charAt(i) + ")");
        }
        steps.append("; say(" + sign + "); fault() = " + (may ? "NONE" : String.valueOf(text.length())));
      }
      BOOK.run(steps.toString());
    }
  }

  private static void acts() {
    BOOK.words("ACTS: a letter a to f (that MEAL is boiled)");
    mayFollow("", "abcdef.~$");
    BOOK.words("and behind it, each once at most, in this order: s (of SNOW), o (no lid), h (a high flame), x (WRAPPED)");
    mayFollow("a", "abcdef.~$sohx");
    mayFollow("fs", "abcdef.~$ohx");
    mayFollow("bo", "abcdef.~$hx");
    mayFollow("ch", "abcdef.~$x");
    mayFollow("dx", "abcdef.~$");
    mayFollow("esohx", "abcdef.~$");
    mayFollow("as.", "abcdef.~$");
    mayFollow("a~", "abcdef.~$");
    mayFollow("a$", "abcdef.~$");
    StringBuilder ways = new StringBuilder("meal(0, 2, 7, 1); set(0, 4000)");
    for (int set = 0; set < 16; set++) {
      String text = "a" + (set % 2 == 1 ? "s" : "") + (set / 2 % 2 == 1 ? "o" : "") + (set / 4 % 2 == 1 ? "h" : "")
          + (set / 8 == 1 ? "x" : "");
      int sum = 4 + set / 2 % 2 + set / 4 % 2;
      int minutes = set / 8 == 1 ? 0 : set / 4 % 2 == 1 ? 14 : 7;
      int price = 22 * sum * (set % 2 == 1 ? 2 : 1) + minutes;
      ways.append("\npad " + text + "; fault() = NONE; judge(2) = " + price + "; plain(0, 0, " + set + ") = " + price);
    }
    BOOK.run(ways.toString());
    BOOK.words(". (the DAY ends)");
    BOOK.run("pad; behind(1) = 0; pad .; behind(1) = 1; pad .............; behind(1) = 13; judge(2) = 0; judge(3) = 0");
  }

  private static void faults() {
    BOOK.words("THE FAULT: the place (from 0 on) of the first sign that can not stand there");
    BOOK.run("pad !; fault() = 0; pad s; fault() = 0; pad a!; fault() = 1; pad ahs; fault() = 2; pad ahsx; fault() = 2; "
        + "pad !!!; fault() = 0");
    String sixty = "~".repeat(58);
    BOOK.run("pad " + sixty + "a!; fault() = 59; say(97) = FULL; fault() = 59");
    BOOK.run("pad " + sixty + "!a; fault() = 58");
    BOOK.run("pad " + sixty + "as; fault() = NONE");
    BOOK.run("pad " + sixty + "$s; fault() = 59");
  }

  private static void reasons() {
    BOOK.words("1 there is no such MEAL");
    BOOK.run("meal(0, 1, 0, 1); pad b; judge(1) = 1; meal(1, 1, 0, 1); judge(1) = NONE");
    BOOK.words("2 water does not boil at so many DEGREES");
    BOOK.run("meal(0, 1, 0, 100); pad a; judge(1) = NONE; set(1, 2); judge(1) = NONE; set(1, 3); judge(1) = 2; "
        + "meal(0, 1, 0, 99); judge(1) = NONE");
    BOOK.run("meal(0, 1, 0, 80); set(1, 60); pad a; judge(1) = NONE; meal(0, 1, 0, 81); judge(1) = 2");
    BOOK.words("3 a high flame on a COLD DAY");
    BOOK.run("meal(0, 1, 0, 1); day(0, 0, true); pad ah; judge(1) = 3; pad asohx; judge(1) = 3; pad asox; judge(1) = NONE"
        + "; day(0, 4, false); pad ah; judge(1) = NONE");
    BOOK.words("4 so much is not LEFT");
    BOOK.run("meal(0, 1, 0, 1); pad a; set(0, 44); judge(1) = NONE; behind(0) = 0; set(0, 43); judge(1) = 4; set(0, 0); "
        + "judge(1) = 4"
        + "; pad aa; set(0, 88); judge(1) = NONE; set(0, 87); judge(0) = 1; judge(1) = 4");
    BOOK.run("meal(0, 4, 60, 1); day(0, 4, false); set(0, 1000); pad asoh; judge(1) = NONE; set(0, 999); judge(1) = 4");
    BOOK.words("5 the shop is shut");
    BOOK.run("pad $; judge(1) = 5; behind(0) = STATE; set(2, 1); judge(1) = NONE; behind(0) = 1800");
    BOOK.words("6 it is DAY 13 (. alone)");
    BOOK.run("meal(0, 1, 0, 1); set(2, 1); set(4, 13); pad .; judge(0) = 0; judge(1) = 6; pad a~$; judge(0) = NONE; "
        + "pad a~$.; judge(0) = 3"
        + "; judge(1) = 6; set(4, 12); judge(0) = NONE; pad ..; judge(0) = 1; judge(1) = 6");
    BOOK.run("pad ..............; judge(0) = 13; judge(1) = 6; pad .............; judge(0) = NONE");
    BOOK.words("An ACT can not be for the least of these reasons");
    // 1 and 3; a MEAL that is not there is not too hot and costs nothing.
    BOOK.run("day(0, 0, true); set(0, 0); pad ah; judge(1) = 1");
    BOOK.run("meal(0, 1, 0, 100); day(0, 0, true); set(0, 0); set(1, 60); pad ah; judge(1) = 2; day(0, 0, false); "
        + "judge(1) = 2"
        + "; set(0, 4000); day(0, 0, true); judge(1) = 2; set(1, 0); judge(1) = 3; set(0, 0); judge(1) = 3; "
        + "day(0, 0, false); judge(1) = 4"
        + "; set(0, 4000); judge(1) = NONE");
    BOOK.words("the first act that can not be, and why");
    BOOK.run("meal(0, 1, 0, 1); set(0, 43); pad $ab; judge(0) = 0; judge(1) = 5; set(2, 6); judge(0) = 2; judge(1) = 1; "
        + "pad ab$; judge(0) = 0; judge(1) = 4");
  }

  private static void bag() {
    BOOK.words("~ (the can sleeps in the bag this night: the next DAY is not COLD)");
    BOOK.run("meal(0, 1, 0, 1); day(0, 0, true); day(1, 0, true); day(2, 0, true); pad ~; behind(2) = 1; pad ~ah; "
        + "judge(0) = 1; judge(1) = 3"
        + "; pad ~.ah; judge(0) = NONE; behind(2) = 0; pad a~.ah; judge(0) = NONE; pad ~a.ah; judge(0) = NONE; pad .ah; "
        + "judge(1) = 3");
    BOOK.run("meal(0, 1, 0, 1); day(13, 0, true); set(4, 12); pad .ah; judge(1) = 3; pad ~.ah; judge(0) = NONE; "
        + "behind(2) = 0");
    BOOK.words("a night in the bag warms that one alone");
    BOOK.run("meal(0, 1, 0, 1); day(0, 0, true); day(1, 0, true); day(2, 0, true); day(3, 0, true); pad ~..; behind(2) = 1"
        + "; pad ~.ah.ah; judge(0) = 4; judge(1) = 3; pad ~.~.ah; judge(0) = NONE; pad .~.ah; judge(0) = NONE; pad ~..~.ah; "
        + "judge(0) = NONE"
        + "; pad ~.ah.~.ah; judge(0) = NONE");
    BOOK.words("A second ~ on a DAY is nothing more");
    BOOK.run("meal(0, 1, 0, 1); day(1, 0, true); day(2, 0, true); pad ~~.; behind(2) = 0; judge(0) = NONE; pad ~~..; "
        + "behind(2) = 1"
        + "; pad ~~~.ah.; behind(2) = 1; pad ~a~.; behind(2) = 0; pad ~a~..; behind(2) = 1; pad ~~.; done() = 3; "
        + "behind(2) = 0");
  }

  private static void newObject() {
    BOOK.words("Promise 1: 800 quarters LEFT, no MEALS, DAY 0");
    StringBuilder steps = new StringBuilder("told(0) = 0; told(1) = 800; told(2) = 0; told(3) = 0; told(4) = 0; told(5) = 0"
        + "; told(6) = 0; told(7) = 0; told(8) = 100");
    for (int d = 0; d < 14; d++) {
      steps.append("; told(" + (20 + d) + ") = 0");
    }
    for (int m = 1; m <= 6; m++) {
      for (int k = 0; k < 3; k++) {
        steps.append("; told(" + (100 * m + k) + ") = OUTSIDE");
      }
    }
    steps.append("; wipe() = 0; forget() = 0; fault() = NONE; mark() = 4; restore(0) = STATE; restore(1) = STATE");
    BOOK.run(steps.toString());
    // What one object is told is nothing to another.
    BOOK.run("meal(0, 1, 0, 1); set(0, 1); set(1, 1); set(2, 1); set(3, 1); set(4, 1); day(0, 1, true); seen(1, 1); pad a; "
        + "image(0); image(1)");
    BOOK.run(steps.toString());
    BOOK.words("An object is used for at most 512 calls after it has been made");
    BOOK.run("meal(0, 1, 0, 1); pad a; " + "wipe(); say(97) = 1; judge(2) = 44; ".repeat(169) + "leaks(-1) = 75; "
        + "told(1) = 800");
  }

  private static void set() {
    BOOK.words("Promise 2: 0 LEFT, 1 HEIGHT, 2 SHUT, 3 SHIELD (1, 0), 4 the DAY: which it was");
    BOOK.run("set(0, 11) = 800; set(1, 12) = 0; set(2, 3) = 0; set(3, 1) = 0; set(4, 13) = 0; told(1) = 11; told(2) = 12; "
        + "told(3) = 3"
        + "; told(4) = 1; told(5) = 13; set(0, 0) = 11; set(1, 0) = 12; set(2, 0) = 3; set(3, 0) = 1; set(4, 0) = 13; "
        + "told(1) = 0"
        + "; told(2) = 0; told(3) = 0; told(4) = 0; told(5) = 0");
    BOOK.run("set(0, 7) = 800; set(0, 7) = 7; set(4, 7) = 0; set(4, 7) = 7; set(3, 1) = 0; set(3, 1) = 1");
    BOOK.words("Promise 2: 3 SHIELD (1, 0)");
    BOOK.bounds("", "set(3, ?)", 0, 1, "OUTSIDE");
    BOOK.run("set(3, 1) = 0; set(3, 2) = OUTSIDE; told(4) = 1; set(3, -1) = OUTSIDE; told(4) = 1; set(3, 0) = 1; "
        + "told(4) = 0");
    BOOK.words("Promise 2: 4 the DAY");
    BOOK.run("set(4, 13) = 0; set(4, 14) = OUTSIDE; told(5) = 13; set(4, -1) = OUTSIDE; told(5) = 13; set(4, 0) = 13; "
        + "told(5) = 0");
    BOOK.words("Promise 2: OUTSIDE");
    BOOK.bounds("", "set(?, 0)", 0, 4, "OUTSIDE");
    BOOK.bounds("", "set(?, 1)", 0, 4, "OUTSIDE");
    BOOK.run("set(5, 800) = OUTSIDE; set(-1, 800) = OUTSIDE; set(MIN, MIN) = OUTSIDE; set(MAX, MAX) = OUTSIDE");
    for (int which = 0; which < 5; which++) {
      int most = new int[] {4000, 60, 6, 1, 13}[which];
      String full = "set(0, 4000); set(1, 60); set(2, 6); set(3, 1); set(4, 13)";
      String middle = "set(0, 2000); set(1, 30); set(2, 3); set(4, 7)";
      String[] wrong = {"-1", String.valueOf(most + 1), "MIN", "MAX"};
      for (String v : wrong) {
        BOOK.changesNothing(full, "set(" + which + ", " + v + ") = OUTSIDE");
        BOOK.changesNothing(middle, "set(" + which + ", " + v + ") = OUTSIDE");
      }
    }
    BOOK.changesNothing("", "set(5, 0) = OUTSIDE; set(-1, 0) = OUTSIDE; set(MIN, 0) = OUTSIDE; set(MAX, 0) = OUTSIDE");
  }

  private static void day() {
    BOOK.words("Promise 3: WIND of a DAY, and whether it is COLD: which WIND it was");
    BOOK.run("day(5, 4, true) = 0; told(25) = 14; day(5, 3, false) = 4; told(25) = 3; day(5, 3, true) = 3; told(25) = 13; "
        + "day(5, 0, true) = 3"
        + "; told(25) = 10; day(5, 0, false) = 0; told(25) = 0; told(24) = 0; told(26) = 0");
    BOOK.run("day(0, 1, true) = 0; day(13, 4, true) = 0; told(20) = 11; told(33) = 14; day(0, 0, false) = 1; "
        + "day(13, 0, false) = 4; told(20) = 0; told(33) = 0");
    BOOK.words("Promise 3: UNKNOWN; OUTSIDE");
    String[] days = {"-1", "14", "MIN", "MAX"};
    String[] winds = {"-1", "5", "MIN", "MAX"};
    for (String d : days) {
      BOOK.changesNothing("day(0, 2, true); day(13, 3, true)", "day(" + d + ", 1, false) = UNKNOWN");
      for (String w : winds) {
        BOOK.run("day(" + d + ", " + w + ", true) = UNKNOWN");
      }
    }
    for (String w : winds) {
      BOOK.changesNothing("day(0, 2, true); day(13, 3, true)", "day(0, " + w + ", false) = OUTSIDE; day(13, " + w
          + ", false) = OUTSIDE");
      BOOK.changesNothing("day(0, 2, false)", "day(0, " + w + ", true) = OUTSIDE");
    }
  }

  private static void meal() {
    BOOK.words("Promise 4: A MEAL is there (or otherwise): how many are");
    BOOK.run("meal(5, 1, 0, 1) = 1; meal(0, 1, 0, 1) = 2; meal(5, 4, 60, 100) = 2; told(600) = 4; told(601) = 60; "
        + "told(602) = 100; told(100) = 1"
        + "; meal(2, 1, 0, 1) = 3; meal(2, 1, 0, 1) = 3; meal(1, 1, 0, 1) = 4; meal(4, 1, 0, 1) = 5; meal(3, 1, 0, 1) = 6; "
        + "meal(3, 2, 0, 1) = 6");
    BOOK.words("Promise 4: UNKNOWN: the number; OUTSIDE");
    String[] numbers = {"-1", "6", "MIN", "MAX"};
    for (String m : numbers) {
      BOOK.changesNothing("meal(0, 1, 2, 3); meal(5, 4, 5, 6)", "meal(" + m + ", 1, 0, 1) = UNKNOWN");
      BOOK.run("meal(" + m + ", 0, 0, 1) = UNKNOWN; meal(" + m + ", 1, 61, 1) = UNKNOWN; meal(" + m + ", 1, 0, 0) = UNKNOWN; "
          + "meal(" + m + ", MAX, MIN, MAX) = UNKNOWN");
    }
    String[] wrong = {"0, 2, 3", "5, 2, 3", "MIN, 2, 3", "MAX, 2, 3", "1, -1, 3", "1, 61, 3", "1, MIN, 3", "1, MAX, 3",
        "1, 2, 0", "1, 2, 101", "1, 2, -1", "1, 2, MIN", "1, 2, MAX", "5, 61, 101", "0, -1, 0"};
    for (String w : wrong) {
      BOOK.changesNothing("meal(0, 4, 60, 100); meal(5, 2, 2, 2)", "meal(0, " + w + ") = OUTSIDE; meal(3, " + w
          + ") = OUTSIDE; meal(5, " + w + ") = OUTSIDE");
    }
  }

  private static void say() {
    BOOK.words("Promise 5: A sign more: how many");
    StringBuilder all = new StringBuilder();
    for (int i = 1; i <= 60; i++) {
      all.append("\nsay(33) = " + i + "; told(0) = " + i);
    }
    BOOK.run(all.toString());
    BOOK.words("Promise 5: OUTSIDE; FULL");
    String full = "meal(0, 1, 0, 1); pad " + "~".repeat(59) + "a";
    BOOK.changesNothing(full, "say(97) = FULL; say(126) = FULL");
    BOOK.changesNothing(full, "say(33) = FULL");
    BOOK.changesNothing(full, "say(32) = OUTSIDE; say(127) = OUTSIDE; say(MIN) = OUTSIDE; say(MAX) = OUTSIDE; "
        + "say(-1) = OUTSIDE; say(0) = OUTSIDE");
    BOOK.changesNothing("", "say(32) = OUTSIDE; say(127) = OUTSIDE; say(MIN) = OUTSIDE; say(MAX) = OUTSIDE; "
        + "say(-1) = OUTSIDE; say(0) = OUTSIDE");
    BOOK.changesNothing("pad ~!", "say(32) = OUTSIDE; say(127) = OUTSIDE; say(65633) = OUTSIDE; say(353) = OUTSIDE; "
        + "say(-159) = OUTSIDE");
    BOOK.words("a sign that is said changes what fault() tells");
    BOOK.run("fault() = NONE; say(33) = 1; fault() = 0; wipe() = 1; say(97) = 1; fault() = NONE; say(115) = 2; "
        + "fault() = NONE; say(115) = 3; fault() = 2"
        + "; say(97) = 4; fault() = 2");
  }

  private static void wipe() {
    BOOK.words("Promise 6: Signs go: how many there were");
    BOOK.run("wipe() = 0; say(97) = 1; wipe() = 1; told(0) = 0; wipe() = 0; " + "say(97); ".repeat(60) + "wipe() = 60; "
        + "told(0) = 0; wipe() = 0; say(97) = 1");
    BOOK.run("pad a!; fault() = 1; wipe() = 2; fault() = NONE; judge(0) = NONE");
  }

  private static void fault() {
    BOOK.words("Promise 7: THE FAULT; NONE");
    BOOK.run("fault() = NONE; pad asohx~$.f; fault() = NONE; pad " + "asohx".repeat(12) + "; fault() = NONE; pad "
        + "asohx".repeat(11) + "asohh; fault() = 59");
    // Acts that can not be are no FAULT.
    BOOK.run("pad b$...............; fault() = NONE; set(0, 0); set(4, 13); fault() = NONE");
  }
}
