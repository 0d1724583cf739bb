/** The first paragraph of the document's Terms: which refusal comes first, and that refused calls change nothing. */
public final class EdgesOfRefusalsTest {
  private static final Book BOOK = new Book("EdgesOfRefusalsTest");
  /** MEALS 0 and 1 are there, it is DAY 5, the can is full, and each of the rest is neither as at first nor the greatest. */
  private static final String CAMP = "meal(0, 1, 5, 90); meal(1, 2, 10, 100); set(0, 4000); set(1, 7); set(2, 3); set(3, 1); "
      + "set(4, 5)"
      + "; day(5, 3, true); day(6, 4, true); day(13, 2, true); seen(0, 20); seen(2, 19); ";
  private static final String CAN_BE = CAMP + "pad a~.as";
  private static final String FAULTY = CAMP + "pad a~.a!";
  private static final String CAN_NOT_BE = CAMP + "pad a~.ac";
  private static final String BOTH = CAMP + "pad c~.a!";
  /** DAYS 5 to 13 are 9. */
  private static final String NINE_DAYS = CAMP + "pad ........";
  private static final String FULL_PAD = CAMP + "pad " + "~".repeat(59) + "a";
  private static final String EIGHT_SIGHTS = CAMP + "pad ~~; " + "seen(1, 19); ".repeat(6);
  private static final String FULL_PAD_FAULTY = CAMP + "pad " + "~".repeat(59) + "s";
  /** The night of DAY 5 is to be in the bag; or the one ahead of it was, and DAY 5 is warmed. */
  private static final String IN_BAG = CAMP + "pad ~; done() = 1; pad a.as";
  private static final String WARMED = CAMP + "set(4, 4); day(5, 3, true); pad ~.; done() = 2; pad ah.as";
  private static final String[] PLANS = {CAN_BE, FAULTY, CAN_NOT_BE, BOTH, NINE_DAYS, FULL_PAD, EIGHT_SIGHTS, FULL_PAD_FAULTY,
      IN_BAG, WARMED};

  public static void main(String[] args) {
    asTermsSay();
    inAnotherOrder();
    ofThePlan();
    changeNothing();
    askingChangesNothing();
    fractions();
    sets();
    BOOK.close();
  }

  private static void asTermsSay() {
    BOOK.words("Calls that are refused answer, the first of these that fits: UNKNOWN -1 (there is no such MEAL, DAY), "
        + "OUTSIDE -2 (another number is not as told), NO -5 (as told), STATE -3 (as told), FULL -4");
    for (String plan : PLANS) {
      BOOK.run(plan + "; day(14, 5, true) = UNKNOWN; day(-1, -1, false) = UNKNOWN; day(5, 5, true) = OUTSIDE");
      BOOK.run(plan + "; meal(6, 5, 61, 101) = UNKNOWN; meal(-1, 0, -1, 0) = UNKNOWN; meal(2, 5, 61, 101) = OUTSIDE");
      BOOK.run(plan + "; plain(2, 5, 16) = UNKNOWN; plain(0, 14, -1) = UNKNOWN; plain(6, -1, 99) = UNKNOWN; "
          + "plain(0, 5, 16) = OUTSIDE");
      BOOK.run(plan + "; shares(2, -1, 0) = UNKNOWN; shares(0, -1, 4) = UNKNOWN; shares(6, 100000000, -1) = UNKNOWN; "
          + "shares(0, -1, 3) = OUTSIDE");
      BOOK.run(plan + "; ends(2) = UNKNOWN; ends(1) = STATE; ends(-1) = UNKNOWN; keep(2, 5) = UNKNOWN; "
          + "keep(0, 14) = UNKNOWN");
      BOOK.run(plan + "; restore(2) = OUTSIDE; restore(-1) = OUTSIDE; restore(0) = STATE; image(2) = OUTSIDE; "
          + "week(0, 0, 0) = OUTSIDE; told(300) = OUTSIDE");
    }
    BOOK.run(FULL_PAD + "; say(32) = OUTSIDE; say(127) = OUTSIDE; say(97) = FULL");
    BOOK.run(EIGHT_SIGHTS + "; seen(61, 0) = OUTSIDE; seen(0, 21) = OUTSIDE; seen(0, 20) = FULL");
  }

  private static void inAnotherOrder() {
    BOOK.words("where a call names them in another order, in that");
    for (String plan : PLANS) {
      BOOK.run(plan + "; shared(-1, 14) = OUTSIDE; shared(1000000, -1) = OUTSIDE; shared(1, 14) = UNKNOWN; "
          + "shared(1000, 5) = UNKNOWN; shared(999999, 5) = UNKNOWN");
      BOOK.run(plan + "; most(-1, 14, 0) = OUTSIDE; most(0, 14, 2) = OUTSIDE; most(1000000, 4, 0) = OUTSIDE; "
          + "most(999999, 4, -1) = OUTSIDE; most(1000, 5, 2) = OUTSIDE; most(990000, 5, 2) = OUTSIDE");
      BOOK.run(plan + "; most(999999, 5, 0) = UNKNOWN; most(990000, 4, 0) = UNKNOWN; most(990000, 14, 1) = UNKNOWN; "
          + "most(990001, 13, 1) = UNKNOWN; most(990000, 5, 0) = FULL");
      BOOK.run(plan + "; least(-1, 14) = OUTSIDE; least(1000000, 4) = OUTSIDE; least(999999, 5) = UNKNOWN; "
          + "least(990000, 4) = UNKNOWN; least(990000, 14) = UNKNOWN; least(990001, 13) = UNKNOWN; least(990000, 5) = FULL");
      BOOK.run(plan + "; cost(60, 2) = OUTSIDE; cost(-1, -1) = OUTSIDE; cost(MAX, MIN) = OUTSIDE");
    }
    BOOK.run(FAULTY + "; cost(60, 0) = NO; cost(-1, 1) = NO");
    BOOK.run(CAN_NOT_BE + "; cost(60, 0) = STATE; cost(-1, 1) = STATE");
    BOOK.run(BOTH + "; cost(60, 0) = NO; cost(-1, 1) = NO");
    BOOK.run(CAN_BE + "; cost(4, 0) = UNKNOWN; cost(-1, 1) = UNKNOWN");
  }

  /** What each call that asks of the PLAN is refused with, with a FAULT, with an ACT that can not be, and with both. */
  private static void ofThePlan() {
    BOOK.words("NO -5 (as told), STATE -3 (as told)");
    String[] calls = {"judge(2)", "judge(3)", "behind(0)", "behind(1)", "behind(2)", "cost(0, 0)", "cost(0, 1)", "spent(0)",
        "spent(13)", "done()", "leaks(-1)", "leaks(0)", "where()", "weigh(0)", "weigh(1)"};
    for (String call : calls) {
      BOOK.run(FAULTY + "; " + call + " = NO");
      BOOK.run(BOTH + "; " + call + " = NO");
      BOOK.run(CAN_NOT_BE + "; " + call + " = STATE");
      BOOK.run(CAN_BE + "; " + call);
    }
    // Of each of the six reasons: an ACT that can not be, alone and as the last one.
    String[] hindered = {"pad c", "pad b", "pad ah", "set(0, 53); pad a", "set(2, 5); pad $", "set(4, 13); pad ."};
    for (int why = 1; why <= 6; why++) {
      BOOK.run(CAMP + hindered[why - 1] + "; judge(1) = " + why);
      for (String call : calls) {
        BOOK.run(CAMP + hindered[why - 1] + "; " + call + " = STATE");
        BOOK.run(CAMP + hindered[why - 1].replace("pad ", "pad ~~") + "; " + call + " = STATE");
      }
      BOOK.changesNothing(CAMP + hindered[why - 1].replace("pad ", "pad ~~"), "done() = STATE");
    }
    for (String plan : PLANS) {
      BOOK.run(plan + "; judge(4) = OUTSIDE; judge(-1) = OUTSIDE; behind(3) = OUTSIDE; behind(-1) = OUTSIDE; "
          + "weigh(2) = OUTSIDE; weigh(-1) = OUTSIDE; spent(14) = UNKNOWN; spent(-1) = UNKNOWN");
    }
  }

  private static void changeNothing() {
    BOOK.words("They change nothing");
    String anywhere = "set(5, 0) = OUTSIDE; set(-1, 0) = OUTSIDE; set(0, 4001) = OUTSIDE; set(1, 61) = OUTSIDE; "
        + "set(2, 7) = OUTSIDE; set(3, 2) = OUTSIDE; set(4, 14) = OUTSIDE; set(0, -1) = OUTSIDE; set(4, -1) = OUTSIDE"
        + "; day(14, 0, true) = UNKNOWN; day(0, 5, true) = OUTSIDE; day(5, -1, false) = OUTSIDE; meal(6, 1, 1, 1) = UNKNOWN; "
        + "meal(0, 5, 1, 1) = OUTSIDE; meal(2, 1, 61, 1) = OUTSIDE; meal(1, 1, 1, 0) = OUTSIDE"
        + "; say(32) = OUTSIDE; say(127) = OUTSIDE; judge(4) = OUTSIDE; behind(3) = OUTSIDE; cost(0, 2) = OUTSIDE; "
        + "spent(14) = UNKNOWN; plain(2, 0, 0) = UNKNOWN; plain(0, 0, 16) = OUTSIDE"
        + "; shared(-1, 0) = OUTSIDE; shared(1, 0) = UNKNOWN; most(0, 5, 2) = OUTSIDE; most(0, 4, 0) = UNKNOWN; "
        + "most(990000, 5, 0) = FULL; least(-1, 5) = OUTSIDE; least(0, 4) = UNKNOWN; least(990000, 5) = FULL"
        + "; ends(2) = UNKNOWN; ends(1) = STATE; keep(2, 0) = UNKNOWN; seen(61, 0) = OUTSIDE; seen(0, 21) = OUTSIDE; "
        + "weigh(2) = OUTSIDE; gust(11, 0, 0) = GONE + OUTSIDE; shares(2, 0, 0) = UNKNOWN; shares(0, -1, 0) = OUTSIDE"
        + "; week(10000, 1, 0) = OUTSIDE; image(2) = OUTSIDE; restore(2) = OUTSIDE; told(9) = OUTSIDE";
    for (String plan : PLANS) {
      BOOK.changesNothing(plan, anywhere + "; restore(0) = STATE; restore(1) = STATE");
      // An IMAGE that is kept is not changed either.
      BOOK.changesNothing("image(0); " + plan + "; image(1)", anywhere);
    }
    String noPlan = "judge(2) = ?; behind(0) = ?; cost(0, 0) = ?; spent(0) = ?; done() = ?; leaks(-1) = ?; where() = ?; "
        + "weigh(0) = ?; gust(0, 0, 0) = GONE + ?";
    BOOK.changesNothing(FAULTY, noPlan.replace("?", "NO"));
    BOOK.changesNothing(BOTH, noPlan.replace("?", "NO"));
    BOOK.changesNothing(CAN_NOT_BE, noPlan.replace("?", "STATE"));
    BOOK.changesNothing(NINE_DAYS, "gust(0, 0, 0) = GONE + FULL");
    BOOK.changesNothing(FULL_PAD, "say(97) = FULL; say(33) = FULL");
    BOOK.changesNothing(EIGHT_SIGHTS, "seen(0, 0) = FULL; seen(2, 20) = FULL");
  }

  /** Calls that only tell something. */
  private static void askingChangesNothing() {
    BOOK.words("Nothing is promised beyond the answers and state changes described above");
    String asked = "fault(); judge(0); judge(1); judge(2); judge(3); behind(0); behind(1); behind(2); cost(0, 0); "
        + "cost(1, 1); spent(5); plain(0, 13, 15); shared(930000, 5); most(930000, 13, 0); most(930000, 13, 1)"
        + "; least(210000, 13); ends(0); mark(); keep(0, 0); leaks(-1); leaks(0); leaks(MAX); where(); weigh(0); weigh(1); "
        + "gust(3, 0, 0); gust(10, 1, 1); shares(0, 123, 2); week(5, 50, 0); week(9999, 50, 2); told(0); told(25); "
        + "told(101)";
    for (String plan : new String[] {CAN_BE, EIGHT_SIGHTS, IN_BAG, WARMED, FULL_PAD}) {
      BOOK.changesNothing("image(0); " + plan + "; image(1)", asked);
    }
    // To be told otherwise leaves what it is not about: signs and SIGHTS.
    BOOK.run(CAN_BE + "; set(0, 3999); set(1, 0); set(2, 0); set(3, 0); set(4, 0); day(0, 1, false); meal(0, 2, 2, 2); "
        + "image(0); restore(0); told(0) = 5; told(7) = 2; wipe() = 5; told(7) = 2; told(6) = 3; told(1) = 3999; "
        + "forget() = 2; told(0) = 0; told(1) = 3999");
  }

  private static void fractions() {
    BOOK.words("refused with GONE and the refusal");
    BOOK.run(CAN_BE + "; gust(11, 0, 0) = -1000000000000000002; gust(11, 0, 1) = -1000000000000000002; "
        + "gust(0, 2, 1) = -1000000000000000002");
    BOOK.run(FAULTY + "; gust(0, 0, 0) = -1000000000000000005; gust(0, 1, 1) = -1000000000000000005");
    BOOK.run(CAN_NOT_BE + "; gust(0, 0, 0) = -1000000000000000003; gust(0, 1, 1) = -1000000000000000003");
    BOOK.run(NINE_DAYS + "; gust(0, 0, 0) = -1000000000000000004; gust(0, 1, 1) = -1000000000000000004");
    BOOK.run(BOTH + "; gust(0, 0, 0) = -1000000000000000005; gust(11, 0, 0) = -1000000000000000002");
    BOOK.run(NINE_DAYS + "; gust(-1, 0, 0) = -1000000000000000002; say(99); gust(0, 0, 0) = -1000000000000000003; say(33); "
        + "gust(0, 0, 0) = -1000000000000000005");
  }

  private static void sets() {
    BOOK.words("Sets are bits");
    BOOK.run("meal(0, 1, 0, 1); meal(3, 1, 0, 1); meal(5, 1, 0, 1); told(6) = 41");
    BOOK.run("pad ~~~; where() = 7; seen(1, 4); where() = 6; seen(2, 4); where() = 4");
    BOOK.run("meal(0, 1, 9, 1); plain(0, 0, 0) = 53; plain(0, 0, 1) = 97; plain(0, 0, 2) = 64; plain(0, 0, 4) = 73; "
        + "plain(0, 0, 8) = 44; plain(0, 0, 15) = 132");
  }
}
