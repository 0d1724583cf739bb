import java.lang.reflect.InvocationTargetException;
import java.lang.reflect.Method;
import java.lang.reflect.Modifier;
import java.util.ArrayList;
import java.util.HashMap;
import java.util.List;
import java.util.Map;

/**
 * Runs of calls, told as texts, each under the words of the document that it tests.
 *
 * A run is a text of steps, each on a line of its own or parted from the next by "; ":
 *   set(0, 4001) = OUTSIDE     the call, and the answer that is due
 *   meal(0, 1, 0, 1)           a call that must not be refused, whatever it answers
 *   pad a~.b                   wipes the PAD and says these signs (nothing: the PAD is empty)
 * Numbers may be told as MIN and MAX (the least and the greatest int), answers by the names of the constants.
 */
final class Book {
  private static final int MOST_CALLS = 512;
  private static final int NONE = -6;
  /** Never due: no call may throw. */
  private static final long THREW = Long.MIN_VALUE;
  private static final Map<String, Method> CALLS = calls();
  private final String name;
  private String words = "";
  private int sentences;
  private int askedHere = 1;
  private int asked;
  private int wrong;

  Book(String name) {
    this.name = name;
    Watch.start();
  }

  private static Map<String, Method> calls() {
    Map<String, Method> all = new HashMap<>();
    for (Method m : OneCan.class.getDeclaredMethods()) {
      if (Modifier.isPublic(m.getModifiers())) {
        all.put(m.getName(), m);
      }
    }
    return all;
  }

  /** What follows tests these words of the document. */
  Book words(String quoted) {
    checkAsked();
    words = quoted;
    sentences++;
    askedHere = 0;
    return this;
  }

  /** A run on a new object. */
  Book run(String steps) {
    on(new Can(), steps);
    return this;
  }

  /**
   * A call with one number left open (?), each time on a new object that is set as told: the least and the greatest
   * number are taken; the one below and the one above, the least and the greatest int are refused, and so are those
   * that would be right if only their lowest one or two bytes were looked at.
   */
  Book bounds(String setting, String call, int least, int greatest, String refusal) {
    long[] refused = {Integer.MIN_VALUE, least - 1L, greatest + 1L, Integer.MAX_VALUE, least + 256L, greatest - 256L,
        least + 65536L, greatest - 65536L, Integer.MIN_VALUE + (long) least, Integer.MIN_VALUE + (long) greatest};
    for (long v : refused) {
      if (v < least || v > greatest) {
        run(setting + "\n" + call.replace("?", String.valueOf(v)) + " = " + refusal);
      }
    }
    run(setting + "\n" + call.replace("?", String.valueOf(least)));
    run(setting + "\n" + call.replace("?", String.valueOf(greatest)));
    return this;
  }

  /**
   * Makes two objects alike, makes the calls on one of them alone, and asks all of both; then the same with two others,
   * whose PLAN is done first, for what done() does is not to hide what the calls did.
   */
  Book changesNothing(String setting, String calls) {
    for (List<String> questions : List.of(Questions.asItIs(), Questions.behindDone())) {
      Can touched = new Can();
      Can twin = new Can();
      on(touched, setting);
      on(twin, setting);
      on(touched, calls);
      for (String question : questions) {
        due(setting + "; " + calls + "; .. " + question, touched.ask(question), twin.ask(question));
      }
    }
    return this;
  }

  private void on(Can can, String steps) {
    StringBuilder told = new StringBuilder();
    for (String step : steps.split("\n|; ")) {
      String text = step.strip();
      if (text.isEmpty()) {
        continue;
      }
      told.append(told.length() == 0 ? "" : "; ").append(text);
      if (text.equals("pad") || text.startsWith("pad ")) {
        tellPad(can, text.substring(3).strip(), told.toString());
        continue;
      }
      int is = text.lastIndexOf(" = ");
      long got = can.ask(is < 0 ? text : text.substring(0, is));
      if (is >= 0) {
        due(told.toString(), got, number(text.substring(is + 3)));
      } else {
        due(told + " is refused: whether it", got < 0 && got != NONE ? 1 : 0, 0);
      }
    }
  }

  private void tellPad(Can can, String signs, String told) {
    can.ask("wipe()");
    for (int i = 0; i < signs.length(); i++) {
      due(told + ", sign " + i, can.ask("say(" + (int) signs.charAt(i) + ")"), i + 1);
    }
  }

  void due(String call, long got, long want) {
    askedHere++;
    asked++;
    if (got != want || got == THREW) {
      wrong++;
      System.out.println("\"" + words + "\": " + call + " answered " + got + ", due is " + want);
    }
  }

  private void checkAsked() {
    if (askedHere == 0) {
      wrong++;
      System.out.println("\"" + words + "\" has no test");
    }
  }

  /** Tells what was asked, and fails if an answer was not the one that is due. */
  void close() {
    checkAsked();
    System.out.println(name + ": " + sentences + " sentences, " + asked + " answers, " + wrong + " wrong");
    if (wrong != 0) {
      System.exit(1);
    }
  }

  static long number(String text) {
    long sum = 0;
    for (String part : text.split(" \\+ ")) {
      sum += term(part.strip());
    }
    return sum;
  }

  private static long term(String text) {
    switch (text) {
      case "UNKNOWN": return -1;
      case "OUTSIDE": return -2;
      case "STATE": return -3;
      case "FULL": return -4;
      case "NO": return -5;
      case "NONE": return -6;
      case "GONE": return -1000000000000000000L;
      case "MIN": return Integer.MIN_VALUE;
      case "MAX": return Integer.MAX_VALUE;
      default: return Long.parseLong(text);
    }
  }

  /** An object and how often it was called: what it answers behind its 512th call is free. */
  private static final class Can {
    final OneCan can = new OneCan();
    int calls;

    long ask(String call) {
      int open = call.indexOf('(');
      int close = call.lastIndexOf(')');
      Method m = open < 0 ? null : CALLS.get(call.substring(0, open));
      calls++;
      if (m == null || close < open || calls > MOST_CALLS) {
        throw new IllegalArgumentException("call " + calls + " of an object: " + call);
      }
      String inside = call.substring(open + 1, close).strip();
      String[] texts = inside.isEmpty() ? new String[0] : inside.split(",");
      Object[] args = new Object[texts.length];
      for (int i = 0; i < texts.length; i++) {
        String text = texts[i].strip();
        boolean flag = text.equals("true") || text.equals("false");
        args[i] = flag ? (Object) Boolean.valueOf(text) : (Object) Math.toIntExact(number(text));
      }
      try {
        return ((Number) m.invoke(can, args)).longValue();
      } catch (InvocationTargetException e) {
        System.out.println(call + " threw " + e.getCause());
        return THREW;
      } catch (IllegalAccessException e) {
        throw new IllegalStateException(call, e);
      }
    }
  }

  /** What two objects are asked to see whether they are alike. */
  private static final class Questions {
    private static List<String> asItIs() {
      List<String> list = new ArrayList<>();
      told(list);
      ofThePlan(list);
      list.add("wipe()");
      ofAnyPlan(list);
      add(list, "mark()", "most(200000, 13, 0)", "least(200000, 13)", "ends(0)", "keep(0, 0)", "shares(0, 0, 0)",
          "week(1, 9, 0)", "week(1, 9, 1)", "week(1, 9, 2)");
      for (int k = 0; k < 2; k++) {
        list.add("restore(" + k + ")");
        told(list);
        ofAnyPlan(list);
      }
      return list;
    }

    private static List<String> behindDone() {
      List<String> list = new ArrayList<>();
      list.add("done()");
      told(list);
      list.add("wipe()");
      ofAnyPlan(list);
      return list;
    }

    /** PLANS that can be in any state but on DAY 13 show the bag and the SIGHTS, which told() does not. */
    private static void ofAnyPlan(List<String> list) {
      add(list, "behind(2)", "say(126)", "say(126)", "leaks(-1)", "leaks(0)", "where()", "wipe()");
      add(list, "say(46)", "behind(2)", "wipe()");
    }

    private static void add(List<String> list, String... calls) {
      for (String call : calls) {
        list.add(call);
      }
    }

    private static void told(List<String> list) {
      for (int what = 0; what < 9; what++) {
        list.add("told(" + what + ")");
      }
      for (int day = 0; day < 14; day++) {
        list.add("told(" + (20 + day) + ")");
      }
      for (int meal = 1; meal <= 6; meal++) {
        for (int part = 0; part < 3; part++) {
          list.add("told(" + (100 * meal + part) + ")");
        }
      }
    }

    private static void ofThePlan(List<String> list) {
      add(list, "fault()", "judge(0)", "judge(1)", "judge(2)", "judge(3)", "behind(0)", "behind(1)", "behind(2)");
      add(list, "cost(0, 0)", "cost(0, 1)", "cost(1, 0)", "cost(3, 0)", "cost(4, 0)", "cost(59, 0)", "spent(0)", "spent(13)");
      add(list, "leaks(-1)", "leaks(0)", "where()", "weigh(0)", "weigh(1)");
      add(list, "gust(3, 0, 0)", "gust(3, 0, 1)", "gust(3, 1, 0)", "gust(3, 1, 1)");
    }
  }
}
