/** Each promise of the document by hand: ordinary inputs, the edges it names, wrong inputs. */
public final class PromiseTest {
  private static final int UNKNOWN = -1, OUTSIDE = -2, STATE = -3, FULL = -4, NO = -5, NONE = -6;
  private static final long GONE = -1000000000000000000L;
  private static int wrong = 0;
  private static int asked = 0;

  private static void due(String call, long got, long want) {
    asked++;
    if (got != want) {
      wrong++;
      System.out.println(call + " answered " + got + ", due is " + want);
    }
  }

  private static OneCan pad(OneCan x, String text) {
    x.wipe();
    for (int i = 0; i < text.length(); i++) {
      x.say(text.charAt(i));
    }
    return x;
  }

  public static void main(String[] args) {
    Watch.start();
    promise1();
    promises2to4();
    promises5to7();
    promise8();
    promises9to12();
    bag();
    bagBehindDone();
    bagAndSetDay();
    warmDayAndSetDay();
    bagAndDay();
    bagThatIsNotDone();
    bagInImages();
    promise13();
    promise14();
    promises15and16();
    promises17to19();
    promises20to24();
    shopAndLeaks();
    promise25();
    promises26and27();
    promises28to30();
    refusals();
    System.out.println(asked + " answers asked, " + wrong + " wrong");
    if (wrong != 0) {
      System.exit(1);
    }
  }

  private static void promise1() {
    OneCan x = new OneCan();
    int[] want = {0, 800, 0, 0, 0, 0, 0, 0, 100};
    for (int i = 0; i < want.length; i++) {
      due("1: told(" + i + ")", x.told(i), want[i]);
    }
    for (int d = 0; d < 14; d++) {
      due("1: told(20 + " + d + ")", x.told(20 + d), 0);
    }
    due("1: told(100)", x.told(100), OUTSIDE);
    due("1: restore(0)", x.restore(0), STATE);
    due("constants", OneCan.GONE + OneCan.UNKNOWN + OneCan.OUTSIDE + OneCan.STATE + OneCan.FULL + OneCan.NO + OneCan.NONE, GONE - 21);
  }

  private static void promises2to4() {
    OneCan x = new OneCan();
    int[] first = {800, 0, 0, 0, 0};
    int[] most = {4000, 60, 6, 1, 13};
    for (int w = 0; w < 5; w++) {
      due("2: set(w, most)", x.set(w, most[w]), first[w]);
      due("2: set(w, most + 1)", x.set(w, most[w] + 1), OUTSIDE);
      due("2: set(w, -1)", x.set(w, -1), OUTSIDE);
      due("2: told", x.told(w + 1), most[w]);
      due("2: set(w, 0)", x.set(w, 0), most[w]);
      due("2: told", x.told(w + 1), 0);
    }
    due("2: set(-1, 0)", x.set(-1, 0), OUTSIDE);
    due("2: set(5, 0)", x.set(5, 0), OUTSIDE);
    due("3: day(13, 4, true)", x.day(13, 4, true), 0);
    due("3: told(33)", x.told(33), 14);
    due("3: day(13, 1, false)", x.day(13, 1, false), 4);
    due("3: told(33)", x.told(33), 1);
    due("3: day(13, 5, true)", x.day(13, 5, true), OUTSIDE);
    due("3: day(13, -1, true)", x.day(13, -1, true), OUTSIDE);
    due("3: told(33)", x.told(33), 1);
    due("3: day(14, 9, true)", x.day(14, 9, true), UNKNOWN);
    due("3: day(-1, 0, true)", x.day(-1, 0, true), UNKNOWN);
    due("4: meal(5, 4, 60, 100)", x.meal(5, 4, 60, 100), 1);
    due("4: meal(5, 1, 0, 1)", x.meal(5, 1, 0, 1), 1);
    due("4: meal(0, 2, 3, 4)", x.meal(0, 2, 3, 4), 2);
    due("4: told(6)", x.told(6), 33);
    int[][] bad = {{0, 0, 1}, {5, 0, 1}, {1, -1, 1}, {1, 61, 1}, {1, 0, 0}, {1, 0, 101}};
    for (int[] b : bad) {
      due("4: meal(0, bad)", x.meal(0, b[0], b[1], b[2]), OUTSIDE);
    }
    due("4: meal(6, 9, 9, 999)", x.meal(6, 9, 9, 999), UNKNOWN);
    due("4: meal(-1, 1, 1, 1)", x.meal(-1, 1, 1, 1), UNKNOWN);
    due("4: told(100)", x.told(100), 2);
    due("4: told(101)", x.told(101), 3);
    due("4: told(102)", x.told(102), 4);
    due("30: told(99)", x.told(99), OUTSIDE);
    due("30: told(103)", x.told(103), OUTSIDE);
  }

  private static void promises5to7() {
    OneCan x = new OneCan();
    due("7: fault()", x.fault(), NONE);
    due("5: say(32)", x.say(32), OUTSIDE);
    due("5: say(127)", x.say(127), OUTSIDE);
    due("5: say(-159)", x.say(-159), OUTSIDE);
    due("5: say(65536 + 97)", x.say(65536 + 97), OUTSIDE);
    due("5: told(0)", x.told(0), 0);
    for (int i = 1; i <= 60; i++) {
      due("5: say", x.say(i % 2 == 0 ? 33 : 126), i);
    }
    due("5: say(97)", x.say(97), FULL);
    due("5: say(200)", x.say(200), OUTSIDE);
    due("7: fault()", x.fault(), 1);
    due("6: wipe()", x.wipe(), 60);
    due("6: wipe()", x.wipe(), 0);
    due("7: fault()", x.fault(), NONE);
    String[] right = {"a", "f", "asohx", "bsh", "cx", "dox.", "~~.$", "asbocx$.~"};
    for (String text : right) {
      due("7: fault() of " + text, pad(x, text).fault(), NONE);
    }
    String[] bad = {"s", "g", "aa!", "asos", "aos", "axx", "ass", ".s", "~x", "$h", "ahxo", "A", "a.h"};
    int[] at = {0, 0, 2, 3, 2, 2, 2, 1, 1, 1, 3, 0, 2};
    for (int i = 0; i < bad.length; i++) {
      due("7: fault() of " + bad[i], pad(x, bad[i]).fault(), at[i]);
    }
    pad(x, "a!");
    x.say('?');
    due("7: fault() stays the first", x.fault(), 1);
  }

  private static void promise8() {
    OneCan x = new OneCan();
    x.meal(0, 1, 5, 90);
    due("8: judge(-1)", x.judge(-1), OUTSIDE);
    due("8: judge(4)", x.judge(4), OUTSIDE);
    pad(x, "a.ao");
    due("8: judge(0)", x.judge(0), NONE);
    due("8: judge(1)", x.judge(1), NONE);
    due("8: judge(2)", x.judge(2), 49 + 60);
    due("8: judge(3)", x.judge(3), 2);
    pad(x, "a.q");
    due("8: judge(4) with a FAULT", x.judge(4), OUTSIDE);
    for (int what = 0; what < 4; what++) {
      due("8: judge with a FAULT", x.judge(what), NO);
    }
    pad(x, ".b");
    due("8: no MEAL", x.judge(0), 1);
    due("8: no MEAL", x.judge(1), 1);
    due("8: no MEAL", x.judge(2), STATE);
    due("8: no MEAL", x.judge(3), STATE);
    pad(x, "a");
    x.set(1, 30);
    due("8: 90 degrees are enough", x.judge(1), NONE);
    x.set(1, 32);
    due("8: 32 by 3 is cut", x.judge(1), NONE);
    x.set(1, 33);
    due("8: 89 degrees are not", x.judge(1), 2);
    x.day(0, 0, true);
    x.set(0, 0);
    pad(x, "ah");
    due("8: the least reason, of 2, 3, 4", x.judge(1), 2);
    x.set(1, 0);
    due("8: the least reason, of 3, 4", x.judge(1), 3);
    pad(x, "a");
    due("8: no gas", x.judge(1), 4);
    x.set(0, 49);
    due("8: just enough gas", x.judge(1), NONE);
    x.set(0, 48);
    due("8: one too few", x.judge(1), 4);
    pad(x, "$");
    due("8: shut on DAY 0", x.judge(1), 5);
    x.set(4, 7);
    due("8: shut on DAY 7", x.judge(1), 5);
    x.set(4, 6);
    due("8: open on DAY 6", x.judge(1), NONE);
    x.set(2, 6);
    due("8: shut on DAY 6", x.judge(1), 5);
    x.set(4, 13);
    due("8: shut on DAY 13", x.judge(1), 5);
    pad(x, "~.");
    due("8: DAY 13", x.judge(0), 1);
    due("8: DAY 13", x.judge(1), 6);
    x.set(4, 12);
    due("8: DAY 12", x.judge(1), NONE);
  }

  private static void promises9to12() {
    OneCan x = new OneCan();
    x.meal(0, 2, 10, 50);
    x.meal(1, 1, 0, 100);
    x.day(1, 3, true);
    x.day(2, 1, true);
    pad(x, "as.bo$a.b");
    due("9: behind(3)", x.behind(3), OUTSIDE);
    due("9: behind(-1)", x.behind(-1), OUTSIDE);
    due("9: LEFT", x.behind(0), 800 - 186 - 88 + 1000 - 164 - 55);
    due("9: DAY", x.behind(1), 2);
    due("9: COLD", x.behind(2), 1);
    int[] all = {186, 0, 88, 0, 164, 0, 55};
    int[] wind = {0, 0, 33, 0, 66, 0, 11};
    for (int i = 0; i < all.length; i++) {
      due("10: cost(" + i + ", 0)", x.cost(i, 0), all[i]);
      due("10: cost(" + i + ", 1)", x.cost(i, 1), wind[i]);
    }
    due("10: cost(7, 0)", x.cost(7, 0), UNKNOWN);
    due("10: cost(-1, 1)", x.cost(-1, 1), UNKNOWN);
    due("10: cost(7, 2)", x.cost(7, 2), OUTSIDE);
    due("10: cost(0, -1)", x.cost(0, -1), OUTSIDE);
    int[] days = {186, 252, 55, 0};
    for (int d = 0; d < days.length; d++) {
      due("11: spent(" + d + ")", x.spent(d), days[d]);
    }
    due("11: spent(14)", x.spent(14), UNKNOWN);
    due("11: spent(-1)", x.spent(-1), UNKNOWN);
    x.set(3, 1);
    due("10: by the WIND behind the SHIELD", x.cost(2, 1), 11);
    due("10: no WIND behind the SHIELD", x.cost(6, 1), 0);
    due("12: done()", x.done(), 7);
    due("12: LEFT", x.told(1), 800 - 186 - 66 + 1000 - 120 - 44);
    due("12: DAY", x.told(5), 2);
    due("12: the PAD is empty", x.told(0), 0);
    due("12: done() of nothing", x.done(), 0);
    pad(x, "c");
    due("9: STATE", x.behind(0), STATE);
    due("10: STATE", x.cost(9, 0), STATE);
    due("11: STATE", x.spent(0), STATE);
    due("12: STATE", x.done(), STATE);
    due("12: the PAD stays", x.told(0), 1);
    x.say('c' + 10);
    due("9: NO", x.behind(0), NO);
    due("10: NO", x.cost(9, 0), NO);
    due("11: NO", x.spent(0), NO);
    due("12: NO", x.done(), NO);
    due("11: UNKNOWN ahead of NO", x.spent(14), UNKNOWN);
    pad(x, "$$$$");
    due("9: 4000 at most", x.behind(0), 4000);
  }

  private static void bag() {
    OneCan x = new OneCan();
    x.meal(0, 1, 0, 1);
    x.day(0, 0, true);
    x.day(1, 0, true);
    x.day(2, 0, true);
    due("bag: not this DAY", pad(x, "~ah").judge(1), 3);
    due("bag: the next", pad(x, "~.ah").judge(0), NONE);
    due("bag: not COLD then", x.behind(2), 0);
    due("bag: not the one behind it", pad(x, "~.ah.ah").judge(0), 4);
    due("bag: COLD then", pad(x, "~..").behind(2), 1);
    due("bag: a second is nothing more", pad(x, "~~..").behind(2), 1);
    due("bag: each night", pad(x, "~.~.").behind(2), 0);
    due("bag: an ACT each", x.done(), 4);
    due("bag: a DAY that is over is as told", x.told(21), 10);
  }

  /** MEAL 0 is there, and every DAY is COLD. */
  private static OneCan coldDays() {
    OneCan x = new OneCan();
    x.meal(0, 1, 0, 1);
    for (int d = 0; d < 14; d++) {
      x.day(d, 0, true);
    }
    return x;
  }

  private static OneCan doneThen(OneCan x, String plan, String next) {
    pad(x, plan);
    due("12: done() of " + plan, x.done() >= 0 ? 1 : 0, 1);
    return pad(x, next);
  }

  private static void bagBehindDone() {
    OneCan x = coldDays();
    due("12: DAY 0 is COLD", pad(x, "").behind(2), 1);
    due("12: the night is DONE: not COLD then", doneThen(x, "~.", "").behind(2), 0);
    due("12: a high flame", pad(x, "ah").judge(0), NONE);
    due("12: what it burns", x.spent(1), 55);
    due("12: gusts are told", x.gust(5, 1, 0), 66);
    due("12: leaks are told", x.leaks(-1), 74);
    due("12: that one alone", pad(x, "ah.ah").judge(0), 2);
    due("12: that one alone", x.judge(1), 3);
    due("12: COLD behind it", doneThen(x, "ah.", "").behind(2), 1);
    due("12: LEFT", x.behind(0), 745);
    due("12: a PLAN of nothing changes nothing", doneThen(doneThen(x, "~.", ""), "", "ah").judge(0), NONE);

    x = coldDays();
    due("12: the night is to come: COLD yet", doneThen(x, "~", "").behind(2), 1);
    due("12: the night is to come", pad(x, "ah").judge(1), 3);
    due("12: the night is to come: not COLD then", pad(x, ".").behind(2), 0);
    due("12: the DAY behind the next is COLD", pad(x, "..").behind(2), 1);
    due("12: other ACTS of the DAY are DONE", doneThen(x, "a", ".ah").judge(0), NONE);
    due("12: the night is DONE by itself", doneThen(x, ".", "ah").judge(0), NONE);
    due("12: both, this DAY and the next", doneThen(x, "~", "ah.ah").judge(0), NONE);
    due("12: a second ~ is nothing more", doneThen(x, "~", "ah.ah.ah").judge(0), 4);

  }

  /** ~ tells of the night that ends its DAY, if that one comes next: no other DAY is warmed. */
  private static void bagAndSetDay() {
    OneCan x = coldDays();
    doneThen(x, "~", "").set(4, 7);
    due("2: the night of another DAY is not in the bag", pad(x, ".ah").judge(0), 1);
    due("2: a high flame on a COLD DAY", x.judge(1), 3);
    due("2: COLD then", pad(x, ".").behind(2), 1);
    due("2: gas without end, and COLD", pad(x, ".ah").gust(5, 1, 0), OneCan.GONE + STATE);
    due("2: it is DAY 7", x.set(4, 8), 7);

    x = coldDays();
    due("2: COLD ahead of the night", doneThen(x, "~", "ah").judge(1), 3);
    x.set(4, 14);
    due("2: refused, nothing changes", pad(x, ".ah").judge(0), NONE);

    x = coldDays();
    x.set(4, 7);
    doneThen(x, ".~", "").set(4, 7);
    due("2: the night that comes next is another", pad(x, ".ah").judge(0), 1);
    due("2: the second is not that night", pad(x, "..ah").judge(0), 2);
    due("2: DONE, another night has come", doneThen(x, ".", ".ah").judge(0), 1);

    x = coldDays();
    x.set(4, 13);
    due("2: no DAY behind 13", doneThen(x, "~", "").behind(2), 1);
    x.set(4, 0);
    due("2: DAY 0 is another one", pad(x, ".").behind(2), 1);
    due("2: DONE elsewhere, no night", doneThen(x, "a", ".").behind(2), 1);
    x.set(4, 12);
    due("2: DAY 13 is the next to 12", x.behind(2), 1);
  }

  private static void warmDayAndSetDay() {
    OneCan x = coldDays();
    doneThen(x, "~.", "").set(4, 5);
    due("2: DAY 5 is not the one that is warmed", x.behind(2), 1);
    due("2: a high flame on a COLD DAY", pad(x, "ah").judge(1), 3);
    due("2: cost", x.cost(0, 0), STATE);
    due("2: spent", x.spent(5), STATE);
    due("2: done", x.done(), STATE);
    due("2: leaks", x.leaks(-1), STATE);
    due("2: gust", x.gust(5, 1, 0), OneCan.GONE + STATE);
    due("2: the next is COLD too", pad(x, ".").behind(2), 1);
    x.set(4, 0);
    due("2: nor the DAY ahead of it", pad(x, "").behind(2), 1);
    due("2: another night, the same number", pad(x, ".ah").judge(0), 1);

    x = coldDays();
    due("2: another night has come", doneThen(doneThen(x, "~.", ""), "ah.", "").behind(2), 1);
    x.set(4, 1);
    due("2: that number again", x.behind(2), 1);

    x = coldDays();
    doneThen(x, "~.", "").set(4, 5);
    due("2: ~ on another DAY", doneThen(x, "~", ".ah").judge(0), NONE);
    due("2: that night comes", doneThen(x, ".", "ah").judge(0), NONE);
    x.set(4, 1);
    due("2: and not the other", pad(x, ".ah").judge(0), 1);
  }

  private static void bagAndDay() {
    OneCan x = coldDays();
    doneThen(x, "~", "");
    x.day(1, 3, true);
    due("3: COLD as told, and warmed by the night that comes then", pad(x, ".ah").judge(0), NONE);
    due("3: as told last", x.told(21), 13);
    x.day(1, 2, false);
    due("3: as told last", x.told(21), 2);
    due("3: not COLD", pad(x, ".").behind(2), 0);
    due("3: the DAY behind it is, as told", pad(x, "..").behind(2), 1);
  }

  private static void bagThatIsNotDone() {
    OneCan x = coldDays();
    pad(x, "~.");
    x.wipe();
    due("12: wiped", pad(x, ".").behind(2), 1);
    due("12: STATE", pad(x, "~b").done(), STATE);
    due("12: STATE: nothing changes", pad(x, ".ah").judge(0), 1);
    due("12: NO", pad(x, "~!").done(), NO);
    due("12: NO: nothing changes", pad(x, ".ah").judge(0), 1);
  }

  private static void bagInImages() {
    OneCan x = coldDays();
    x.image(0);
    doneThen(x, "~.~", "");
    x.image(1);
    due("29: kept ahead of the bag", x.restore(0), 1);
    due("29: COLD", pad(x, ".ah").judge(0), 1);
    due("29: kept behind it", x.restore(1), 1);
    due("29: this DAY and the next", pad(x, "ah.ah").judge(0), NONE);
    due("29: not the one behind", pad(x, "..ah").judge(0), 2);
    doneThen(x, ".~.", "");
    x.restore(1);
    due("29: what came later is gone", pad(x, "..ah").judge(0), 2);
    due("29: the nights are as kept", pad(x, "ah.ah").judge(0), NONE);
    x.set(4, 0);
    due("29: another DAY is set", x.judge(0), 0);
    x.restore(1);
    due("29: the DAYS are as kept", x.judge(0), NONE);
    x.restore(0);
    due("29: none", pad(x, "ah").judge(0), 0);
  }

  private static void promise13() {
    OneCan x = new OneCan();
    x.meal(3, 3, 7, 100);
    x.set(1, 60);
    x.day(4, 2, true);
    for (int ways = 0; ways < 16; ways++) {
      int sum = 6 + (ways >> 1 & 1) + (ways >> 2 & 1);
      int minutes = ways >= 8 ? 0 : ways >= 4 ? 14 : 7;
      due("13: plain(3, 4, " + ways + ")", x.plain(3, 4, ways), 33 * sum * (1 + (ways & 1)) + minutes);
    }
    due("13: plain(3, 4, 16)", x.plain(3, 4, 16), OUTSIDE);
    due("13: plain(3, 4, -1)", x.plain(3, 4, -1), OUTSIDE);
    due("13: plain(2, 4, 99)", x.plain(2, 4, 99), UNKNOWN);
    due("13: plain(6, 4, 0)", x.plain(6, 4, 0), UNKNOWN);
    due("13: plain(-1, 4, 0)", x.plain(-1, 4, 0), UNKNOWN);
    due("13: plain(3, 14, 0)", x.plain(3, 14, 0), UNKNOWN);
    due("13: plain(3, -1, 0)", x.plain(3, -1, 0), UNKNOWN);
    x.set(3, 1);
    due("13: behind the SHIELD", x.plain(3, 4, 0), 139);
    due("13: no less than no WIND", x.plain(3, 5, 0), 139);
  }

  private static void promise14() {
    OneCan x = new OneCan();
    for (int q = 1; q <= 4; q++) {
      x.meal(q, q, 10, 100);
    }
    x.set(1, 60);
    due("14: four of 1 in a pot", x.shared(40000, 0), 186);
    due("14: the fifth in another", x.shared(50000, 0), 240);
    due("14: two of 2 in a pot", x.shared(3000, 0), 284);
    due("14: one of 3 in a pot", x.shared(200, 0), 284);
    due("14: one of 4 in a pot", x.shared(20, 0), 372);
    due("14: MEALS do not share", x.shared(11000, 0), 44 + 88 + 20);
    due("14: none", x.shared(0, 13), 0);
    due("14: the greatest number, but not all are there", x.shared(999999, 13), UNKNOWN);
    due("14: MEAL 0 is not there", x.shared(100000, 0), UNKNOWN);
    due("14: MEAL 5 is not there", x.shared(1, 0), UNKNOWN);
    due("14: shared(0, 14)", x.shared(0, 14), UNKNOWN);
    due("14: shared(0, -1)", x.shared(0, -1), UNKNOWN);
    due("14: shared(1000000, 14)", x.shared(1000000, 14), OUTSIDE);
    due("14: shared(-1, 14)", x.shared(-1, 14), OUTSIDE);
  }

  private static void promises15and16() {
    OneCan x = new OneCan();
    x.meal(0, 1, 0, 10);
    x.meal(1, 4, 60, 10);
    x.meal(2, 2, 0, 100);
    x.day(0, 4, false);
    x.day(1, 2, false);
    x.set(0, 300);
    due("15: most, DAY 0", x.most(430000, 0, 0), 3);
    due("15: worth, DAY 0", x.most(430000, 0, 1), 3);
    due("15: most, DAY 1", x.most(430000, 1, 0), 4);
    due("15: worth, DAY 1", x.most(430000, 1, 1), 4);
    due("15: worth, DAY 2", x.most(430000, 2, 1), 65);
    due("15: most, DAY 2", x.most(430000, 2, 0), 4);
    due("15: a hot one", x.most(2000, 2, 0), 2);
    due("16: a hot one", x.least(2000, 2), 176);
    x.set(1, 3);
    due("15: not hot enough", x.most(2000, 2, 0), 0);
    due("15: not hot enough", x.most(2000, 2, 1), 0);
    due("16: not hot enough", x.least(2000, 2), NONE);
    due("16: on the calm ones", x.least(200000, 2), 88);
    due("16: 2 a DAY", x.least(300000, 2), 88 + 66);
    due("16: the large one on the calm one", x.least(310000, 1), 2 * 88 + 66 + 11 * 4 * 6 + 60);
    due("16: too few DAYS", x.least(500000, 1), NONE);
    due("16: whatever is LEFT", x.least(90000, 13), 9 * 236);
    x.set(4, 2);
    due("15: from DAY 2 on", x.most(0, 1, 0), UNKNOWN);
    due("16: from DAY 2 on", x.least(0, 1), UNKNOWN);
    due("15: from DAY 2 on", x.most(0, 2, 0), 0);
    due("15: 12 portions", x.most(930000, 13, 0), 6);
    due("15: 13 portions", x.most(940000, 13, 0), FULL);
    due("16: 13 portions", x.least(940000, 13), FULL);
    due("16: 12 portions", x.least(930000, 7), 9 * 44 + 3 * 236);
    due("15: UNKNOWN ahead of FULL", x.most(940100, 13, 0), UNKNOWN);
    due("15: most(0, 14, 0)", x.most(0, 14, 0), UNKNOWN);
    due("16: least(0, 14)", x.least(0, 14), UNKNOWN);
    due("16: least(0, -1)", x.least(0, -1), UNKNOWN);
    due("15: OUTSIDE ahead of UNKNOWN", x.most(0, 14, 2), OUTSIDE);
    due("15: most(-1, 2, 0)", x.most(-1, 2, 0), OUTSIDE);
    due("15: most(0, 2, -1)", x.most(0, 2, -1), OUTSIDE);
    due("16: least(1000000, 14)", x.least(1000000, 14), OUTSIDE);
  }

  private static void promises17to19() {
    OneCan x = new OneCan();
    x.meal(0, 1, 6, 100);
    x.day(2, 1, true);
    x.set(0, 161);
    due("17: 50, 50, 61", x.ends(0), 3);
    x.set(0, 160);
    due("17: one too few", x.ends(0), 2);
    x.set(4, 12);
    x.set(0, 100);
    due("17: to DAY 13", x.ends(0), NONE);
    x.set(0, 99);
    due("17: not on DAY 13", x.ends(0), 13);
    x.set(1, 3);
    due("17: not hot enough", x.ends(0), STATE);
    due("17: ends(1)", x.ends(1), UNKNOWN);
    due("17: ends(6)", x.ends(6), UNKNOWN);
    due("17: ends(-1)", x.ends(-1), UNKNOWN);
    int[] lefts = {0, 199, 200, 3999, 4000};
    int[] marks = {0, 0, 1, 19, 20};
    for (int i = 0; i < lefts.length; i++) {
      x.set(0, lefts[i]);
      due("18: mark()", x.mark(), marks[i]);
    }
    due("19: hot or not", x.keep(0, 12), 94);
    due("19: DAY 2 is behind DAY 1", x.keep(0, 1), 12 * 94 + 22);
    due("19: not behind DAY 2", x.keep(0, 2), 11 * 94);
    due("19: none behind DAY 13", x.keep(0, 13), 0);
    due("19: keep(1, 0)", x.keep(1, 0), UNKNOWN);
    due("19: keep(0, 14)", x.keep(0, 14), UNKNOWN);
    due("19: keep(0, -1)", x.keep(0, -1), UNKNOWN);
  }

  private static void promises20to24() {
    OneCan x = new OneCan();
    due("20: seen(61, 0)", x.seen(61, 0), OUTSIDE);
    due("20: seen(-1, 0)", x.seen(-1, 0), OUTSIDE);
    due("20: seen(0, 21)", x.seen(0, 21), OUTSIDE);
    due("20: seen(0, -1)", x.seen(0, -1), OUTSIDE);
    for (int i = 1; i <= 8; i++) {
      due("20: seen(60, 20)", x.seen(60, 20), i);
    }
    due("20: a ninth", x.seen(0, 0), FULL);
    due("20: OUTSIDE ahead of FULL", x.seen(0, 21), OUTSIDE);
    due("21: forget()", x.forget(), 8);
    due("21: forget()", x.forget(), 0);
    x.meal(0, 1, 6, 1);
    pad(x, "a~a");
    x.set(0, 200);
    due("22: 10 to 100, 10 to 100, 10 to 100", x.leaks(-1), 30);
    due("22: the first", x.leaks(0), 1);
    due("22: the last of ACT 0", x.leaks(9), 10);
    due("22: the first of ACT 1", x.leaks(10), 1001);
    due("22: the last", x.leaks(29), 2010);
    due("22: none", x.leaks(30), NONE);
    due("22: none", x.leaks(-2), NONE);
    due("22: none", x.leaks(Integer.MAX_VALUE), NONE);
    due("23: where()", x.where(), 7);
    due("24: weigh(0)", x.weigh(0), 0);
    due("24: weigh(1)", x.weigh(1), 30);
    due("24: weigh(2)", x.weigh(2), OUTSIDE);
    due("24: weigh(-1)", x.weigh(-1), OUTSIDE);
    x.seen(0, 1);
    due("22: so at first", x.leaks(-1), 30);
    x.seen(4, 0);
    due("22: a SIGHT behind more ACTS than there are", x.leaks(-1), 0);
    due("23: where()", x.where(), 0);
    due("24: NONE", x.weigh(0), NONE);
    due("24: NONE", x.weigh(1), NONE);
    x.forget();
    x.set(0, 460);
    x.seen(2, 1);
    due("22: 410 behind ACT 1 became 399 or less, 200 or more", x.leaks(-1), 40);
    due("22: from ACT 0 or 1", x.leaks(20), 1002);
    due("23: where()", x.where(), 3);
    due("24: behind ACT 0: 20 went already, 20 did not; behind ACT 2: 30 of MARK 0", x.weigh(0), 0);
    due("24: how many", x.weigh(1), 20);
    x.seen(0, 1);
    due("22: not so at first", x.leaks(-1), 0);
    pad(x, "a~as!");
    due("22: NO", x.leaks(-1), NO);
    due("23: NO", x.where(), NO);
    due("24: NO", x.weigh(0), NO);
    due("24: OUTSIDE ahead of NO", x.weigh(2), OUTSIDE);
    pad(x, "b");
    due("22: STATE", x.leaks(-5), STATE);
    due("23: STATE", x.where(), STATE);
    due("24: STATE", x.weigh(1), STATE);
    x.forget();
    x.set(0, 4000);
    pad(x, "~~~~~~~~~~~~~~~~~~~~~~~~~~~~~~~~~~~~");
    due("22: v 200 at most", x.leaks(-1), 36 * 200);
    due("22: the last", x.leaks(36 * 200 - 1), 35200);
    due("23: the first 30", x.where(), (1 << 30) - 1);
    pad(x, "~~~~~~~~~~~~~~~~~~~~~~~~~~~~~~~~~~~~~~~~~~~~~~~~~~~~~~~~~~~~");
    x.seen(60, 19);
    due("22: 60 ACTS", x.leaks(-1), 60 * 20);
    due("24: half of them went already behind the 30th of 60", x.weigh(0), 29);
    due("24: how many", x.weigh(1), 600);
  }

  private static void shopAndLeaks() {
    OneCan x = new OneCan();
    x.set(2, 6);
    x.set(0, 3900);
    pad(x, "~$");
    x.seen(2, 20);
    due("shop: what went comes back", x.leaks(-1), 90);
    due("shop: 900 of ACT 0 at most", x.leaks(89), 90);
    due("shop: where()", x.where(), 1);
    x.forget();
    x.meal(0, 1, 6, 1);
    pad(x, "~$a");
    x.seen(3, 20);
    due("shop: more than the can holds", x.leaks(-1), 0);
    x.forget();
    x.seen(3, 19);
    due("shop: 3950 behind all", x.leaks(-1), 90 + 15 + 15 + 15);
  }

  private static void promise25() {
    OneCan x = new OneCan();
    x.meal(0, 1, 0, 1);
    x.day(1, 3, false);
    pad(x, "a.a");
    due("25: the mean, 44 or 66 and 77 or 88", x.gust(5, 1, 0), 275);
    due("25: the mean, 44 or 66 and 77 or 88", x.gust(5, 1, 1), 2);
    x.set(0, 131);
    due("25: 121, 132, 143, 154", x.gust(4, 0, 0), 9);
    due("25: 36 of 100", x.gust(4, 0, 1), 25);
    x.set(0, 132);
    due("25: 60 of 100", x.gust(4, 0, 0), 3);
    x.set(0, 143);
    due("25: 84 of 100", x.gust(4, 0, 0), 21);
    x.set(0, 153);
    due("25: never", x.gust(10, 0, 0), 0);
    due("25: never", x.gust(10, 0, 1), 1);
    due("25: always", x.gust(0, 0, 0), 1);
    due("25: always", x.gust(0, 0, 1), 1);
    x.set(0, 0);
    due("25: were there gas without end", x.gust(0, 1, 0), 121);
    x.set(3, 1);
    due("25: behind the SHIELD", x.gust(10, 1, 0), 44 + 66);
    due("25: t", x.gust(11, 0, 0), GONE + OUTSIDE);
    due("25: t", x.gust(-1, 0, 0), GONE + OUTSIDE);
    due("25: what", x.gust(1, 2, 0), GONE + OUTSIDE);
    due("25: what", x.gust(1, -1, 0), GONE + OUTSIDE);
    due("25: part", x.gust(1, 0, 2), GONE + OUTSIDE);
    due("25: part", x.gust(1, 0, -1), GONE + OUTSIDE);
    pad(x, "a!");
    due("25: NO", x.gust(1, 0, 0), GONE + NO);
    pad(x, "ab");
    due("25: behind what wants gas", x.gust(1, 0, 0), GONE + STATE);
    pad(x, ".......a");
    due("25: 8 DAYS", x.gust(1, 1, 0), 44);
    pad(x, "........a");
    due("25: 9 DAYS", x.gust(1, 1, 0), GONE + FULL);
    pad(x, "........b");
    due("25: STATE ahead of FULL", x.gust(1, 1, 0), GONE + STATE);
  }

  private static void promises26and27() {
    OneCan x = new OneCan();
    x.meal(0, 1, 6, 100);
    x.set(1, 60);
    int[] get = {3, 2, 0, 10};
    for (int h = 0; h < 4; h++) {
      x.set(0, 16 * 50 - 1);
      due("26: 15 portions", x.shares(0, 7089900, h), get[h]);
    }
    due("26: to the first of several", x.shares(0, 0, 2), 4);
    due("26: to the first of several", x.shares(0, 0, 3), 3);
    due("26: shares(0, 0, 4)", x.shares(0, 0, 4), UNKNOWN);
    due("26: shares(0, -1, -1)", x.shares(0, -1, -1), UNKNOWN);
    due("26: shares(1, -1, 0)", x.shares(1, -1, 0), UNKNOWN);
    due("26: shares(0, -1, 0)", x.shares(0, -1, 0), OUTSIDE);
    due("26: shares(0, 100000000, 0)", x.shares(0, 100000000, 0), OUTSIDE);
    due("26: shares(0, 99999999, 3)", x.shares(0, 99999999, 3), 3);
    x.set(1, 0);
    // The seed 1 draws 149 (5, by 6: 24), 11249 (5, 1874), 57305 (5, 9550), 38044 (4, 6340).
    due("27: none", x.week(1, 2, 0), 799);
    x.meal(5, 1, 6, 100);
    x.meal(4, 1, 1, 100);
    x.day(0, 4, true);
    due("27: 5 twice", x.week(1, 1, 0), 699);
    due("27: 5 twice", x.week(1, 1, 1), 2);
    due("27: 5, 5, 5, 4", x.week(1, 2, 0), 799 - 150 - 45);
    due("27: 5, 5, 5, 4", x.week(1, 2, 1), 4);
    // The seed 0 draws 74 (2, by 6: 12), 5624 (2, 937).
    x.meal(2, 1, 0, 1);
    due("27: the second of SNOW", x.week(0, 1, 0), 799 - 44 - 88);
    x.set(0, 99);
    due("27: two want gas, then one does not", x.week(1, 2, 0), 4);
    due("27: two", x.week(1, 2, 1), 2);
    due("27: two not", x.week(1, 2, 2), 2);
    x.set(1, 60);
    due("27: not for want of gas", x.week(1, 2, 2), 0);
    due("27: LEFT stays", x.told(1), 99);
    due("27: the greatest seed and the most DAYS", x.week(9999, 50, 0), 99 - 44 - 44);
    int[][] bad = {{-1, 1, 0}, {10000, 1, 0}, {0, 0, 0}, {0, 51, 0}, {0, 1, 3}, {0, 1, -1}};
    for (int[] b : bad) {
      due("27: week(bad)", x.week(b[0], b[1], b[2]), OUTSIDE);
    }
  }

  private static void promises28to30() {
    OneCan x = new OneCan();
    x.meal(1, 2, 3, 4);
    x.set(0, 1);
    x.set(1, 2);
    x.set(2, 3);
    x.set(3, 1);
    x.set(4, 5);
    x.day(6, 4, true);
    x.day(0, 1, true);
    x.day(13, 2, true);
    x.seen(1, 2);
    pad(x, "ab");
    due("28: image(1)", x.image(1), 1);
    due("28: image(2)", x.image(2), OUTSIDE);
    due("28: image(-1)", x.image(-1), OUTSIDE);
    due("29: restore(0)", x.restore(0), STATE);
    due("29: restore(2)", x.restore(2), OUTSIDE);
    due("29: restore(-1)", x.restore(-1), OUTSIDE);
    x.meal(1, 4, 4, 5);
    x.meal(2, 4, 4, 5);
    for (int w = 0; w < 5; w++) {
      x.set(w, 0);
    }
    x.day(6, 1, false);
    x.day(0, 0, false);
    x.day(13, 0, false);
    x.forget();
    x.seen(5, 5);
    x.seen(5, 5);
    pad(x, ".......");
    due("28: image(0)", x.image(0), 1);
    due("29: restore(1)", x.restore(1), 1);
    int[] want = {7, 1, 2, 3, 1, 5, 2, 1, 100};
    for (int i = 0; i < want.length; i++) {
      due("29, 30: told(" + i + ")", x.told(i), want[i]);
    }
    due("30: told(26)", x.told(26), 14);
    due("30: told(20)", x.told(20), 11);
    due("30: told(33)", x.told(33), 12);
    due("30: told(200)", x.told(200), 2);
    due("30: told(201)", x.told(201), 3);
    due("30: told(202)", x.told(202), 4);
    int[] bad = {-1, 9, 19, 34, 99, 100, 203, 299, 300, 302, 700, Integer.MAX_VALUE, Integer.MIN_VALUE};
    for (int b : bad) {
      due("30: told(" + b + ")", x.told(b), OUTSIDE);
    }
    pad(x, "b");
    x.set(0, 800);
    x.set(4, 0);
    due("29: the kept SIGHT counts: 709 became 599 to 400", x.leaks(-1), 20);
    due("29: restore(0)", x.restore(0), 1);
    due("29: told(6)", x.told(6), 6);
    due("29: told(7)", x.told(7), 2);
    due("29: told(26)", x.told(26), 1);
    due("29: twice", x.restore(1), 1);
    due("29: told(6)", x.told(6), 2);
  }

  /** A refused call changes nothing. */
  private static void refusals() {
    OneCan x = new OneCan();
    x.meal(0, 1, 2, 3);
    x.set(0, 5000);
    x.set(4, 14);
    x.meal(0, 2, 2, 101);
    x.day(0, 5, true);
    pad(x, "a");
    x.say(31);
    x.seen(0, 30);
    x.image(9);
    due("LEFT", x.told(1), 800);
    due("DAY", x.told(5), 0);
    due("QUARTS", x.told(100), 1);
    due("WIND", x.told(20), 0);
    due("signs", x.told(0), 1);
    due("SIGHTS", x.told(7), 0);
    due("no IMAGE", x.restore(0), STATE);
  }
}
