/** Part 2 of the document's Terms and promises 8 to 13: each sentence that names an edge by a test of its own. */
public final class EdgesOfPlansTest {
  private static final Book BOOK = new Book("EdgesOfPlansTest");
  /** MEAL 0 costs 44, MEAL 1 is there too, MEAL 2 is not; the shop is shut on DAYS 6 and 13. */
  private static final String CAMP = "meal(0, 1, 0, 1); meal(1, 2, 10, 50); set(2, 6); ";
  private static final String CAN_BE = CAMP + "pad a~.b$";
  private static final String CAN_NOT_BE = CAMP + "pad a.c";
  private static final String FAULTY = CAMP + "pad a.!";
  /** Both: an ACT that can not be, and a FAULT behind it. */
  private static final String BOTH = CAMP + "pad ca!";

  public static void main(String[] args) {
    judged();
    judgeRefused();
    behind();
    behindRefused();
    cost();
    costRefused();
    spent();
    spentRefused();
    done();
    doneRefused();
    bagThatIsDone();
    plain();
    plainRefused();
    BOOK.close();
  }

  private static void judged() {
    BOOK.words("JUDGED: the first ACT (from 0 on) that can not be, why");
    BOOK.run(CAMP + "pad c; judge(0) = 0; judge(1) = 1; pad asohx.c; judge(0) = 2; judge(1) = 1; pad c$$cc; judge(0) = 0; "
        + "pad a~.~c; judge(0) = 4");
    BOOK.run(CAMP + "pad " + "~".repeat(59) + "c; judge(0) = 59; judge(1) = 1; pad " + "c".repeat(60) + "; judge(0) = 0");
    BOOK.words("what was burnt");
    BOOK.run(CAMP + "pad; judge(2) = 0; pad ~.$; judge(2) = 0; pad a; judge(2) = 44; pad a.b.aso; judge(2) = 252");
    BOOK.run("meal(0, 4, 60, 1); day(0, 4, false); set(0, 4000); set(2, 6); pad asohasohasohasoh; judge(2) = 4000; "
        + "behind(0) = 0"
        + "; pad asohasohasohasoh$asoh; judge(2) = 5000; behind(0) = 0; pad $asoh; judge(2) = 1000; behind(0) = 3000");
    BOOK.words("what was burnt; MEALS");
    BOOK.run(CAMP + "set(0, 4000); pad; judge(3) = 0; pad ~.$; judge(3) = 0; pad aaa; judge(3) = 3; pad a.b.as; judge(3) = 3"
        + "; pad " + "a".repeat(60) + "; judge(3) = 60; judge(2) = 2640; judge(0) = NONE");
    BOOK.words("Promise 8: JUDGED: the ACT (what = 0), why (1), burnt (2), MEALS (3)");
    BOOK.run(CAMP + "pad ab; judge(0) = NONE; judge(1) = NONE; judge(2) = 142; judge(3) = 2; pad ab$c; judge(0) = 3; "
        + "judge(1) = 1");
    BOOK.words("Promise 8: NONE");
    BOOK.run("judge(0) = NONE; judge(1) = NONE; judge(2) = 0; judge(3) = 0");
    BOOK.run("set(0, 0); set(4, 13); judge(0) = NONE; judge(1) = NONE; judge(2) = 0; judge(3) = 0");
    BOOK.run(CAN_BE + "; judge(0) = NONE; judge(1) = NONE");
  }

  private static void judgeRefused() {
    BOOK.words("Promise 8: OUTSIDE");
    BOOK.bounds(CAN_BE, "judge(?)", 0, 3, "OUTSIDE");
    BOOK.run("judge(-1) = OUTSIDE; judge(4) = OUTSIDE");
    for (String state : new String[] {FAULTY, CAN_NOT_BE, BOTH}) {
      BOOK.run(state + "; judge(-1) = OUTSIDE; judge(4) = OUTSIDE; judge(MIN) = OUTSIDE; judge(MAX) = OUTSIDE");
    }
    BOOK.words("Promise 8: NO: there is a FAULT");
    BOOK.run(FAULTY + "; judge(0) = NO; judge(1) = NO; judge(2) = NO; judge(3) = NO");
    BOOK.run("pad !; judge(0) = NO; judge(1) = NO; judge(2) = NO; judge(3) = NO");
    BOOK.run(CAMP + "pad " + "a".repeat(18) + "!" + "; judge(0) = NO; judge(1) = NO; judge(2) = NO; judge(3) = NO");
    BOOK.run(BOTH + "; judge(0) = NO; judge(1) = NO; judge(2) = NO; judge(3) = NO");
    BOOK.run(CAMP + "pad " + "~".repeat(59) + "s; judge(0) = NO; judge(2) = NO");
    BOOK.words("Promise 8: STATE (2, 3): some ACT can not be");
    BOOK.run(CAN_NOT_BE + "; judge(0) = 2; judge(1) = 1; judge(2) = STATE; judge(3) = STATE");
    BOOK.run("pad " + "~".repeat(59) + "a; judge(0) = 59; judge(1) = 1; judge(2) = STATE; judge(3) = STATE");
    BOOK.words("judge: They change nothing");
    for (String state : new String[] {CAN_BE, FAULTY, CAN_NOT_BE}) {
      BOOK.changesNothing(state, "judge(-1) = OUTSIDE; judge(4) = OUTSIDE; judge(MIN) = OUTSIDE; judge(MAX) = OUTSIDE");
    }
    BOOK.changesNothing(FAULTY, "judge(0) = NO; judge(1) = NO; judge(2) = NO; judge(3) = NO");
    BOOK.changesNothing(CAN_NOT_BE, "judge(2) = STATE; judge(3) = STATE");
    BOOK.changesNothing(CAN_BE, "judge(0); judge(1); judge(2); judge(3)");
  }

  private static void behind() {
    BOOK.words("BEHIND: LEFT");
    BOOK.run(CAMP + "behind(0) = 800; set(0, 0); behind(0) = 0; set(0, 4000); behind(0) = 4000; set(0, 44); pad a; "
        + "behind(0) = 0; pad a$; behind(0) = 1000"
        + "; set(0, 4000); pad $a; behind(0) = 3956; told(1) = 4000");
    BOOK.run(CAMP + "set(0, 2640); pad " + "a".repeat(60) + "; behind(0) = 0; set(0, 4000); behind(0) = 1360; behind(1) = 0; "
        + "behind(2) = 0");
    BOOK.words("BEHIND: LEFT; the DAY");
    BOOK.run(CAMP + "behind(1) = 0; pad .; behind(1) = 1; pad .............; behind(1) = 13; pad; set(4, 13); "
        + "behind(1) = 13; pad a; behind(1) = 13; told(5) = 13"
        + "; set(4, 12); pad a.; behind(1) = 13");
    BOOK.words("whether it is COLD then");
    BOOK.run(CAMP + "day(1, 0, true); day(13, 4, true); behind(2) = 0; pad .; behind(2) = 1; pad ..; behind(2) = 0; "
        + "pad .............; behind(2) = 1; pad; set(4, 13); behind(2) = 1"
        + "; set(4, 12); behind(2) = 0; pad ~.; behind(2) = 0; pad .; behind(2) = 1");
    BOOK.words("Promise 9: BEHIND: LEFT (what = 0), the DAY (1), COLD (2: 1, 0)");
    BOOK.run(CAMP + "day(2, 0, true); pad a..; behind(0) = 756; behind(1) = 2; behind(2) = 1; day(2, 0, false); "
        + "behind(2) = 0");
  }

  private static void behindRefused() {
    BOOK.words("Promise 9: OUTSIDE");
    BOOK.bounds(CAN_BE, "behind(?)", 0, 2, "OUTSIDE");
    for (String state : new String[] {FAULTY, CAN_NOT_BE, BOTH}) {
      BOOK.run(state + "; behind(-1) = OUTSIDE; behind(3) = OUTSIDE; behind(MIN) = OUTSIDE; behind(MAX) = OUTSIDE");
    }
    BOOK.words("Promise 9: OUTSIDE; NO");
    BOOK.run(FAULTY + "; behind(0) = NO; behind(1) = NO; behind(2) = NO");
    BOOK.run(BOTH + "; behind(0) = NO; behind(1) = NO; behind(2) = NO");
    BOOK.words("Promise 9: NO, STATE, as of judge(2)");
    BOOK.run(CAN_NOT_BE + "; behind(0) = STATE; behind(1) = STATE; behind(2) = STATE");
    BOOK.words("behind: They change nothing");
    BOOK.changesNothing(CAN_BE, "behind(-1) = OUTSIDE; behind(3) = OUTSIDE; behind(MIN) = OUTSIDE; behind(MAX) = OUTSIDE; "
        + "behind(0); behind(1); behind(2)");
    BOOK.changesNothing(FAULTY, "behind(0) = NO; behind(1) = NO; behind(2) = NO; behind(3) = OUTSIDE");
    BOOK.changesNothing(CAN_NOT_BE, "behind(0) = STATE; behind(1) = STATE; behind(2) = STATE; behind(3) = OUTSIDE");
  }

  private static void cost() {
    BOOK.words("COST, of an ACT of it: what it burns (0: no MEAL)");
    BOOK.run(CAMP + "pad a.~$bsohx; cost(0, 0) = 44; cost(1, 0) = 0; cost(2, 0) = 0; cost(3, 0) = 0; cost(4, 0) = 264; "
        + "cost(1, 1) = 0; cost(2, 1) = 0; cost(3, 1) = 0");
    BOOK.run("meal(5, 4, 60, 1); day(13, 4, false); set(4, 13); set(0, 4000); pad fsoh; cost(0, 0) = 1000; cost(0, 1) = 352");
    BOOK.run(CAMP + "day(1, 3, false); pad ~.~$; cost(2, 0) = 0; cost(2, 1) = 0; cost(3, 0) = 0; cost(3, 1) = 0; "
        + "cost(1, 1) = 0");
    BOOK.words("what of it is by the WIND");
    BOOK.run("meal(0, 2, 9, 1); pad a; cost(0, 1) = 0; day(0, 1, false); cost(0, 1) = 22; day(0, 4, false); cost(0, 1) = 88; "
        + "pad aohx; cost(0, 1) = 88; pad as; cost(0, 1) = 176"
        + "; set(3, 1); cost(0, 1) = 88; day(0, 2, false); cost(0, 1) = 0; day(0, 1, false); cost(0, 1) = 0; "
        + "day(0, 0, false); cost(0, 1) = 0; cost(0, 0) = 185");
    BOOK.words("Promise 10: COST of an ACT: all (what = 0), by the WIND (1)");
    BOOK.run("meal(0, 1, 6, 1); day(1, 2, false); pad a.a; cost(0, 0) = 50; cost(0, 1) = 0; cost(2, 0) = 72; "
        + "cost(2, 1) = 22");
  }

  private static void costRefused() {
    BOOK.words("Promise 10: OUTSIDE");
    BOOK.bounds(CAN_BE, "cost(0, ?)", 0, 1, "OUTSIDE");
    for (String state : new String[] {"", CAN_BE, FAULTY, CAN_NOT_BE, BOTH}) {
      BOOK.run(state + "; cost(0, 2) = OUTSIDE; cost(0, -1) = OUTSIDE; cost(99, 2) = OUTSIDE; cost(-1, -1) = OUTSIDE; "
          + "cost(MIN, MIN) = OUTSIDE; cost(MAX, MAX) = OUTSIDE");
    }
    BOOK.words("Promise 10: NO, STATE, likewise");
    BOOK.run(FAULTY + "; cost(0, 0) = NO; cost(0, 1) = NO");
    BOOK.run(BOTH + "; cost(0, 0) = NO; cost(0, 1) = NO");
    BOOK.run(CAN_NOT_BE + "; cost(0, 0) = STATE; cost(0, 1) = STATE; cost(2, 0) = STATE");
    BOOK.words("Promise 10: UNKNOWN (behind that): there is no such ACT");
    BOOK.run(FAULTY + "; cost(-1, 0) = NO; cost(60, 0) = NO; cost(MIN, 1) = NO; cost(MAX, 1) = NO");
    BOOK.run(CAN_NOT_BE + "; cost(-1, 0) = STATE; cost(3, 0) = STATE; cost(MIN, 1) = STATE; cost(MAX, 1) = STATE");
    BOOK.bounds(CAN_BE, "cost(?, 0)", 0, 4, "UNKNOWN");
    BOOK.bounds(CAN_BE, "cost(?, 1)", 0, 4, "UNKNOWN");
    BOOK.run("cost(0, 0) = UNKNOWN; cost(0, 1) = UNKNOWN; cost(-1, 0) = UNKNOWN; cost(59, 0) = UNKNOWN");
    // As many signs, but fewer ACTS.
    BOOK.run(CAMP + "pad asohx; cost(0, 0) = 132; cost(1, 0) = UNKNOWN; cost(4, 0) = UNKNOWN");
    BOOK.bounds(CAMP + "set(0, 4000); pad " + "a".repeat(60), "cost(?, 0)", 0, 59, "UNKNOWN");
    // ACTS of a PLAN that was wiped, or DONE, are none of this one.
    BOOK.run(CAMP + "pad aaa; cost(2, 0) = 44; pad a; cost(1, 0) = UNKNOWN; done() = 1; cost(0, 0) = UNKNOWN");
    BOOK.words("cost: They change nothing");
    BOOK.changesNothing(CAN_BE, "cost(0, 2) = OUTSIDE; cost(0, -1) = OUTSIDE; cost(-1, 0) = UNKNOWN; cost(5, 1) = UNKNOWN; "
        + "cost(MIN, 0) = UNKNOWN; cost(MAX, 1) = UNKNOWN");
    BOOK.changesNothing(FAULTY, "cost(0, 2) = OUTSIDE; cost(0, 0) = NO; cost(MAX, 1) = NO");
    BOOK.changesNothing(CAN_NOT_BE, "cost(0, 2) = OUTSIDE; cost(0, 0) = STATE; cost(MAX, 1) = STATE");
  }

  private static void spent() {
    BOOK.words("SPENT: on a DAY");
    BOOK.run(CAMP + "pad a.ab..b; spent(0) = 44; spent(1) = 142; spent(2) = 0; spent(3) = 98; spent(4) = 0; spent(13) = 0");
    BOOK.run(CAMP + "pad; spent(0) = 0; spent(13) = 0; set(4, 13); pad ab; spent(13) = 142; spent(12) = 0; spent(0) = 0; "
        + "set(4, 12); pad a.b; spent(12) = 44; spent(13) = 98");
    BOOK.run(CAMP + "set(4, 5); pad a~$.; spent(5) = 44; spent(4) = 0; spent(6) = 0; spent(0) = 0");
    BOOK.run(CAMP + "set(0, 4000); pad " + "a".repeat(60) + "; spent(0) = 2640; spent(1) = 0");
    // What was spent by another PLAN is none of this one.
    BOOK.run(CAMP + "pad a.b; spent(1) = 98; done() = 3; spent(0) = 0; spent(1) = 0; pad a; spent(1) = 44; spent(0) = 0");
  }

  private static void spentRefused() {
    BOOK.words("Promise 11: UNKNOWN");
    for (String state : new String[] {"", CAN_BE}) {
      BOOK.bounds(state, "spent(?)", 0, 13, "UNKNOWN");
    }
    for (String state : new String[] {FAULTY, CAN_NOT_BE, BOTH}) {
      BOOK.run(state + "; spent(-1) = UNKNOWN; spent(14) = UNKNOWN; spent(MIN) = UNKNOWN; spent(MAX) = UNKNOWN");
    }
    BOOK.words("Promise 11: NO, STATE, likewise");
    BOOK.run(FAULTY + "; spent(0) = NO; spent(13) = NO");
    BOOK.run(BOTH + "; spent(0) = NO; spent(13) = NO");
    BOOK.run(CAN_NOT_BE + "; spent(0) = STATE; spent(13) = STATE");
    BOOK.words("spent: They change nothing");
    BOOK.changesNothing(CAN_BE, "spent(-1) = UNKNOWN; spent(14) = UNKNOWN; spent(MIN) = UNKNOWN; spent(MAX) = UNKNOWN; "
        + "spent(0)");
    BOOK.changesNothing(FAULTY, "spent(0) = NO; spent(14) = UNKNOWN");
    BOOK.changesNothing(CAN_NOT_BE, "spent(0) = STATE; spent(14) = UNKNOWN");
  }

  private static void done() {
    BOOK.words("DONE: it is so then");
    BOOK.run(CAMP + "pad a.b..; done() = 5; told(1) = 658; told(5) = 3");
    BOOK.run(CAMP + "set(0, 44); pad a; done() = 1; told(1) = 0; mark() = 0; pad a; judge(1) = 4");
    BOOK.run(CAMP + "set(0, 3000); pad $; done() = 1; told(1) = 4000; mark() = 20; pad $; done() = 1; told(1) = 4000");
    BOOK.run(CAMP + "pad .............; done() = 13; told(5) = 13; pad .; judge(1) = 6");
    BOOK.words("Promise 12: the PAD is empty then");
    BOOK.run(CAN_BE + "; done() = 5; told(0) = 0; wipe() = 0; fault() = NONE; judge(2) = 0; say(97) = 1");
    BOOK.run(CAMP + "set(0, 4000); pad " + "a".repeat(60) + "; done() = 60; told(0) = 0; told(1) = 1360; say(97) = 1");
    BOOK.words("Promise 12: The PLAN is DONE (the PAD is empty then): ACTS");
    BOOK.run("done() = 0; told(1) = 800; told(5) = 0");
    BOOK.run(CAMP + "pad asohx; done() = 1; pad ~~~; done() = 3; pad asohxbx.$~; done() = 5; done() = 0");
    // All but LEFT, the DAY and the PAD is as it was.
    BOOK.run("meal(3, 2, 10, 50); set(1, 9); set(2, 6); set(3, 1); day(0, 3, true); day(1, 4, true); day(13, 1, true); "
        + "seen(3, 4); seen(0, 20); pad d.~; done() = 3; told(2) = 9"
        + "; told(3) = 6; told(4) = 1; told(6) = 8; told(7) = 2; told(20) = 13; told(21) = 14; told(33) = 11; told(400) = 2; "
        + "told(401) = 10; told(402) = 50; told(8) = 97; told(1) = 680; told(5) = 1");
  }

  private static void doneRefused() {
    BOOK.words("Promise 12: NO, STATE, likewise");
    BOOK.run(FAULTY + "; done() = NO; told(0) = 3; told(1) = 800; told(5) = 0");
    BOOK.run(BOTH + "; done() = NO");
    BOOK.run(CAN_NOT_BE + "; done() = STATE; told(0) = 3; told(1) = 800; told(5) = 0");
    BOOK.words("done: They change nothing");
    BOOK.changesNothing(FAULTY, "done() = NO");
    BOOK.changesNothing(BOTH, "done() = NO");
    BOOK.changesNothing(CAN_NOT_BE, "done() = STATE");
    BOOK.changesNothing(CAMP + "day(1, 0, true); pad ~.a$c", "done() = STATE");
    BOOK.changesNothing(CAMP + "day(1, 0, true); pad ~!", "done() = NO");
    BOOK.changesNothing(CAMP + "day(0, 0, true); day(1, 0, true); pad ~ah", "done() = STATE");
  }

  /** Only what the document and the issues decide; how set(4, v) and back is taken is PromiseTest's. */
  private static void bagThatIsDone() {
    String cold = "meal(0, 1, 0, 1); day(0, 0, true); day(1, 0, true); day(2, 0, true); day(3, 0, true); day(13, 0, true); ";
    BOOK.words("whether it is COLD then (a night in the bag warms that one alone)");
    BOOK.run(cold + "pad ~.; done() = 2; behind(2) = 0; pad ah; judge(0) = NONE; pad .; behind(2) = 1; "
        + "pad ah.ah; judge(0) = 2");
    BOOK.run(cold + "pad ~; done() = 1; behind(2) = 1; pad ah; judge(1) = 3; pad .; behind(2) = 0; pad .ah; judge(0) = NONE; "
        + "pad ..; behind(2) = 1");
    BOOK.run(cold + "pad ~~; done() = 2; pad ~.; done() = 2; behind(2) = 0; pad .; behind(2) = 1");
    BOOK.run(cold + "set(4, 12); pad ~.; done() = 2; told(5) = 13; behind(2) = 0; pad ah; judge(0) = NONE; pad ~; "
        + "done() = 1; behind(2) = 0; pad .; judge(1) = 6");
    // Another DAY is not the one that is warmed, and another night is not the one in the bag.
    BOOK.run(cold + "pad ~.; done() = 2; set(4, 3); behind(2) = 1; pad ah; judge(1) = 3");
    BOOK.run(cold + "pad .~.; done() = 3; set(4, 0); behind(2) = 1; pad ah; judge(1) = 3; pad .; behind(2) = 1; set(4, 3); "
        + "pad; behind(2) = 1");
    BOOK.run(cold + "pad ~.; done() = 2; set(4, 0); pad .; behind(2) = 1; done() = 1; behind(2) = 1");
    BOOK.run(cold + "pad ~; done() = 1; set(4, 2); pad .; behind(2) = 1; pad .ah; judge(1) = 3");
  }

  private static void plain() {
    BOOK.words("PLAIN: what a MEAL costs on a DAY by a set of ways (bits: 0 SNOW, 1 no lid, 2 high, 3 WRAPPED)");
    StringBuilder steps = new StringBuilder("meal(5, 4, 60, 100); meal(0, 1, 0, 1); day(13, 4, true); day(0, 1, false)");
    for (int ways = 0; ways < 16; ways++) {
      int twice = 1 + (ways & 1);
      int more = (ways >> 1 & 1) + (ways >> 2 & 1);
      int minutes = ways >= 8 ? 0 : (ways & 4) != 0 ? 120 : 60;
      steps.append("\nplain(5, 13, " + ways + ") = " + (44 * (8 + more) * twice + minutes));
      steps.append("; plain(5, 1, " + ways + ") = " + (44 * (4 + more) * twice + minutes));
      steps.append("; plain(0, 0, " + ways + ") = " + 11 * (5 + more) * twice);
      steps.append("; plain(0, 13, " + ways + ") = " + 11 * (8 + more) * twice);
    }
    BOOK.run(steps.toString());
    BOOK.words("whether it can be or not");
    BOOK.run("meal(0, 1, 0, 100); set(1, 60); plain(0, 0, 0) = 44; set(0, 0); plain(0, 0, 0) = 44; day(0, 0, true); "
        + "plain(0, 0, 4) = 55; set(4, 13); plain(0, 0, 0) = 44");
  }

  private static void plainRefused() {
    BOOK.words("Promise 13: UNKNOWN: both");
    String meals = "meal(0, 1, 0, 1); meal(1, 1, 0, 1); meal(2, 1, 0, 1); meal(3, 1, 0, 1); meal(4, 1, 0, 1); "
        + "meal(5, 1, 0, 1)";
    BOOK.bounds(meals, "plain(?, 0, 0)", 0, 5, "UNKNOWN");
    BOOK.bounds(meals, "plain(0, ?, 0)", 0, 13, "UNKNOWN");
    BOOK.run("plain(0, 0, 0) = UNKNOWN; plain(5, 0, 0) = UNKNOWN; meal(3, 1, 0, 1); plain(3, 0, 0) = 44; "
        + "plain(2, 0, 0) = UNKNOWN; plain(4, 0, 0) = UNKNOWN");
    BOOK.words("Promise 13: OUTSIDE: 0 to 15");
    BOOK.bounds(meals, "plain(0, 0, ?)", 0, 15, "OUTSIDE");
    BOOK.run(meals + "; plain(6, 0, 16) = UNKNOWN; plain(0, 14, 16) = UNKNOWN; plain(-1, -1, -1) = UNKNOWN; "
        + "plain(0, MIN, MAX) = UNKNOWN; plain(MAX, 0, MIN) = UNKNOWN");
    BOOK.run("plain(0, 0, 16) = UNKNOWN; plain(0, 0, -1) = UNKNOWN");
    BOOK.words("plain: They change nothing");
    BOOK.changesNothing(CAN_BE, "plain(2, 0, 0) = UNKNOWN; plain(6, 0, 0) = UNKNOWN; plain(MIN, 0, 0) = UNKNOWN; "
        + "plain(0, 14, 0) = UNKNOWN; plain(0, MAX, 0) = UNKNOWN"
        + "; plain(0, 0, 16) = OUTSIDE; plain(0, 0, -1) = OUTSIDE; plain(0, 0, 15)");
  }
}
