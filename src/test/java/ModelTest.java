import java.math.BigInteger;
import java.util.ArrayList;
import java.util.Arrays;
import java.util.List;
import java.util.Random;
import java.util.TreeMap;
import java.util.regex.Matcher;
import java.util.regex.Pattern;

/** Random runs of calls against a model that tries everything out, as the document's words say it. */
public final class ModelTest {
  private static final int UNKNOWN = -1, OUTSIDE = -2, STATE = -3, FULL = -4, NO = -5, NONE = -6;
  private static final long GONE = -1000000000000000000L;
  private static final String[] CALLS = {"set", "day", "meal", "say", "wipe", "fault", "judge", "behind", "cost", "spent",
      "done", "plain", "shared", "most", "least", "ends", "mark", "keep", "seen", "forget", "leaks", "where", "weigh",
      "gust", "shares", "week", "image", "restore", "told"};

  /** What an IMAGE keeps. */
  private static final class Camp {
    int left = 800, height, shut, shield, today;
    final int[] wind = new int[14];
    final boolean[] cold = new boolean[14];
    /** All signs . and ~ of PLANS that are DONE, one behind the other, each with the DAY that it was said on. */
    String nights = "";
    final int[][] meals = new int[6][];
    final List<int[]> sights = new ArrayList<>();

    Camp copy() {
      Camp c = new Camp();
      c.left = left;
      c.height = height;
      c.shut = shut;
      c.shield = shield;
      c.today = today;
      System.arraycopy(wind, 0, c.wind, 0, 14);
      System.arraycopy(cold, 0, c.cold, 0, 14);
      c.nights = nights;
      for (int i = 0; i < 6; i++) {
        c.meals[i] = meals[i] == null ? null : meals[i].clone();
      }
      for (int[] s : sights) {
        c.sights.add(s.clone());
      }
      return c;
    }
  }

  /** One run of a PLAN, with a leak and winds of its own. */
  private static final class Trip {
    int bad = NONE, why = NONE, burnt, boiled, left, day;
    boolean cold, leakFits = true;
    String nights;
    final List<Integer> lefts = new ArrayList<>(), costs = new ArrayList<>(), byWind = new ArrayList<>(), days = new ArrayList<>();
  }

  private static final class Model {
    Camp c = new Camp();
    final Camp[] images = new Camp[2];
    String pad = "";

    boolean is(int meal) {
      return meal >= 0 && meal < 6 && c.meals[meal] != null;
    }

    static boolean isDay(int d) {
      return d >= 0 && d < 14;
    }

    int boilsAt() {
      return 100 - c.height / 3;
    }

    boolean hot(int meal) {
      return boilsAt() >= c.meals[meal][2];
    }

    int price(int meal, int toldWind, String ways) {
      int[] m = c.meals[meal];
      int w = toldWind;
      if (c.shield == 1) {
        w = w < 2 ? 0 : w - 2;
      }
      int sum = 4 + (ways.contains("o") ? 1 : 0) + w + (ways.contains("h") ? 1 : 0);
      int boil = 11 * m[0] * sum;
      if (ways.contains("s")) {
        boil = boil + boil;
      }
      int simmer = ways.contains("x") ? 0 : ways.contains("h") ? m[1] * 2 : m[1];
      return boil + simmer;
    }

    int priceOn(int meal, int day, String ways) {
      return price(meal, c.wind[day], ways);
    }

    int fault() {
      Matcher m = Pattern.compile("(?:[a-f]s?o?h?x?|[.~$])*+").matcher(pad);
      int end = m.lookingAt() ? m.end() : 0;
      return end == pad.length() ? NONE : end;
    }

    List<String> acts() {
      List<String> acts = new ArrayList<>();
      Matcher m = Pattern.compile("[a-f]s?o?h?x?|[.~$]").matcher(pad);
      while (m.find()) {
        acts.add(m.group());
      }
      return acts;
    }

    Trip trip(int[] wind, boolean endless, int leakAct, int v) {
      Trip t = new Trip();
      t.left = c.left;
      t.day = c.today;
      t.nights = c.nights;
      t.lefts.add(t.left);
      List<String> acts = acts();
      for (int i = 0; i < acts.size(); i++) {
        String act = acts.get(i);
        char k = act.charAt(0);
        int price = 0;
        int windPart = 0;
        int why = 0;
        if (k == '.') {
          why = t.day == 13 ? 6 : 0;
        } else if (k == '$') {
          why = t.day % 7 == c.shut ? 5 : 0;
        } else if (k != '~') {
          int meal = k - 'a';
          String ways = act.substring(1);
          if (!is(meal)) {
            why = 1;
          } else if (!hot(meal)) {
            why = 2;
          } else if (isCold(t) && ways.contains("h")) {
            why = 3;
          } else {
            price = price(meal, wind[t.day], ways);
            windPart = price - price(meal, 0, ways);
            why = !endless && price > t.left ? 4 : 0;
          }
        }
        if (why != 0) {
          t.bad = i;
          t.why = why;
          return t;
        }
        t.days.add(t.day);
        t.costs.add(price);
        t.byWind.add(windPart);
        if (k == '.') {
          t.nights += "." + t.day + ";";
          t.day++;
        } else if (k == '~') {
          t.nights += "~" + t.day + ";";
        } else if (k == '$') {
          t.left = Math.min(4000, t.left + 1000);
        } else {
          t.left -= price;
          t.burnt += price;
          t.boiled++;
        }
        if (i == leakAct) {
          t.left -= 10 * v;
          if (t.left < 0) {
            t.leakFits = false;
            return t;
          }
        }
        t.lefts.add(t.left);
      }
      t.cold = isCold(t);
      return t;
    }

    boolean isCold(Trip t) {
      return c.cold[t.day] && !isWarmed(t.nights, t.day);
    }

    /** The night that came last ended the DAY ahead of this one, and of it, since the night before it, ~ was said. */
    private static boolean isWarmed(String nights, int day) {
      int last = nights.lastIndexOf('.');
      if (last < 0) {
        return false;
      }
      String ahead = (day - 1) + ";";
      String said = nights.substring(nights.lastIndexOf('.', last - 1) + 1, last);
      return nights.startsWith(ahead, last + 1) && said.contains("~" + ahead);
    }

    /**
     * Neither the document nor an issue says whether the bag holds when, with no night between, its own DAY is set
     * (again), nor whether a warmed DAY is COLD when it is told so, nor what told() tells of it: such calls are left out.
     */
    boolean isLeftOpen(String name, int[] a) {
      if (name.equals("set") && a[0] == 4) {
        boolean inBag = c.nights.substring(c.nights.lastIndexOf('.') + 1).contains("~" + a[1] + ";");
        return inBag || isWarmed(c.nights, a[1]);
      }
      if (name.equals("told")) {
        return isWarmed(c.nights, a[0] - 20);
      }
      return name.equals("day") && a[2] % 2 != 0 && isWarmed(c.nights, a[0]);
    }

    Trip asTold() {
      return trip(c.wind, false, -1, 0);
    }

    int refusal() {
      return fault() != NONE ? NO : asTold().bad != NONE ? STATE : 0;
    }

    /** Twos of ACT and v, with the whole trip of each. */
    TreeMap<Integer, Trip> leaks() {
      TreeMap<Integer, Trip> fit = new TreeMap<>();
      int n = acts().size();
      for (int a = 0; a < n; a++) {
        for (int v = 1; v <= 200; v++) {
          Trip t = trip(c.wind, false, a, v);
          boolean ok = t.leakFits && t.bad == NONE;
          for (int[] s : c.sights) {
            ok = ok && s[0] <= n && t.lefts.get(s[0]) / 200 == s[1];
          }
          if (ok) {
            fit.put(1000 * a + v, t);
          }
        }
      }
      return fit;
    }

    int leaksAnswer(int i) {
      int r = refusal();
      if (r != 0) {
        return r;
      }
      List<Integer> all = new ArrayList<>(leaks().keySet());
      return i == -1 ? all.size() : i < 0 || i >= all.size() ? NONE : all.get(i);
    }

    int where() {
      int r = refusal();
      if (r != 0) {
        return r;
      }
      int bits = 0;
      for (int key : leaks().keySet()) {
        if (key / 1000 < 30) {
          bits |= 1 << key / 1000;
        }
      }
      return bits;
    }

    int weigh(int what) {
      if (what < 0 || what > 1) {
        return OUTSIDE;
      }
      int r = refusal();
      if (r != 0) {
        return r;
      }
      TreeMap<Integer, Trip> all = leaks();
      int best = NONE;
      int bestLeft = NONE;
      for (int act = 0; act < acts().size() && !all.isEmpty(); act++) {
        int[] by = new int[21];
        for (Trip t : all.values()) {
          by[t.lefts.get(act + 1) / 200]++;
        }
        int worst = Arrays.stream(by).max().getAsInt();
        if (best == NONE || worst < bestLeft) {
          best = act;
          bestLeft = worst;
        }
      }
      return what == 0 ? best : bestLeft;
    }

    long gust(int t, int what, int part) {
      if (t < 0 || t > 10 || what < 0 || what > 1 || part < 0 || part > 1) {
        return GONE + OUTSIDE;
      }
      if (fault() != NONE) {
        return GONE + NO;
      }
      Trip told = trip(c.wind, true, -1, 0);
      if (told.bad != NONE) {
        return GONE + STATE;
      }
      int n = told.day - c.today + 1;
      if (n > 8) {
        return GONE + FULL;
      }
      BigInteger over = BigInteger.ZERO;
      for (int set = 0; set < 1 << n; set++) {
        int[] wind = c.wind.clone();
        BigInteger weight = BigInteger.ONE;
        for (int i = 0; i < n; i++) {
          boolean gusty = (set >> i & 1) == 1;
          if (gusty) {
            wind[c.today + i] = Math.min(4, wind[c.today + i] + 2);
          }
          weight = weight.multiply(BigInteger.valueOf(gusty ? t : 10 - t));
        }
        int value = what == 1 ? trip(wind, true, -1, 0).burnt : trip(wind, false, -1, 0).bad == NONE ? 1 : 0;
        over = over.add(weight.multiply(BigInteger.valueOf(value)));
      }
      BigInteger under = BigInteger.TEN.pow(n);
      BigInteger gcd = over.gcd(under);
      return (part == 0 ? over : under).divide(gcd).longValueExact();
    }

    int[] digits(int portions) {
      String text = String.format("%06d", portions);
      int[] d = new int[6];
      for (int i = 0; i < 6; i++) {
        d[i] = text.charAt(i) - '0';
      }
      return d;
    }

    int orderRefusal(int portions, int day, boolean spread) {
      if (portions < 0 || portions > 999999) {
        return OUTSIDE;
      }
      if (!isDay(day)) {
        return UNKNOWN;
      }
      int sum = 0;
      for (int m = 0; m < 6; m++) {
        sum += digits(portions)[m];
        if (digits(portions)[m] > 0 && !is(m)) {
          return UNKNOWN;
        }
      }
      if (spread && day < c.today) {
        return UNKNOWN;
      }
      return spread && sum > 12 ? FULL : 0;
    }

    int shared(int portions, int day) {
      int r = orderRefusal(portions, day, false);
      if (r != 0) {
        return r;
      }
      int sum = 0;
      for (int m = 0; m < 6; m++) {
        int n = digits(portions)[m];
        int[] best = new int[n + 1];
        for (int i = 1; i <= n; i++) {
          best[i] = Integer.MAX_VALUE;
          for (int k = 1; k <= i && k * c.meals[m][0] <= 4; k++) {
            best[i] = Math.min(best[i], best[i - k] + k * priceOn(m, day, "x") + c.meals[m][1]);
          }
        }
        sum += best[n];
      }
      return sum;
    }

    List<Integer> portionList(int portions) {
      List<Integer> list = new ArrayList<>();
      for (int m = 0; m < 6; m++) {
        for (int i = 0; i < digits(portions)[m]; i++) {
          list.add(m);
        }
      }
      return list;
    }

    int most(int portions, int day, int what) {
      if (what < 0 || what > 1) {
        return OUTSIDE;
      }
      int r = orderRefusal(portions, day, true);
      if (r != 0) {
        return r;
      }
      List<Integer> list = portionList(portions);
      list.removeIf(m -> !hot(m));
      int best = 0;
      for (int set = 0; set < 1 << list.size(); set++) {
        int burnt = 0;
        int worth = 0;
        for (int i = 0; i < list.size(); i++) {
          if ((set >> i & 1) == 1) {
            int m = list.get(i);
            int cheapest = Integer.MAX_VALUE;
            for (int d = c.today; d <= day; d++) {
              cheapest = Math.min(cheapest, priceOn(m, d, ""));
            }
            burnt += cheapest;
            worth += what == 0 ? 1 : c.meals[m][0] + c.meals[m][1];
          }
        }
        if (burnt <= c.left) {
          best = Math.max(best, worth);
        }
      }
      return best;
    }

    int least(int portions, int day) {
      int r = orderRefusal(portions, day, true);
      if (r != 0) {
        return r;
      }
      List<Integer> list = portionList(portions);
      for (int m : list) {
        if (!hot(m)) {
          return NONE;
        }
      }
      int all = (1 << list.size()) - 1;
      int never = 1000000;
      int[] best = new int[all + 1];
      Arrays.fill(best, never);
      best[0] = 0;
      for (int d = c.today; d <= day; d++) {
        int[] next = best.clone();
        for (int set = 0; set <= all; set++) {
          for (int i = 0; i < list.size() && best[set] < never; i++) {
            int one = set | 1 << i;
            if (one == set) {
              continue;
            }
            int price = best[set] + priceOn(list.get(i), d, "");
            next[one] = Math.min(next[one], price);
            for (int j = i + 1; j < list.size(); j++) {
              if ((set >> j & 1) == 0) {
                int two = one | 1 << j;
                next[two] = Math.min(next[two], price + priceOn(list.get(j), d, ""));
              }
            }
          }
        }
        best = next;
      }
      return best[all] >= never ? NONE : best[all];
    }

    int ends(int meal) {
      if (!is(meal)) {
        return UNKNOWN;
      }
      if (!hot(meal)) {
        return STATE;
      }
      int left = c.left;
      for (int d = c.today; d <= 13; d++) {
        if (left < priceOn(meal, d, "")) {
          return d;
        }
        left -= priceOn(meal, d, "");
      }
      return NONE;
    }

    int keep(int meal, int day) {
      if (!is(meal) || !isDay(day)) {
        return UNKNOWN;
      }
      int sum = 0;
      for (int d = 13; d > day; d--) {
        sum += priceOn(meal, d, "s");
      }
      return sum;
    }

    int shares(int meal, int drunk, int hiker) {
      if (!is(meal) || hiker < 0 || hiker > 3) {
        return UNKNOWN;
      }
      if (drunk < 0 || drunk > 99999999) {
        return OUTSIDE;
      }
      String text = String.format("%08d", drunk);
      int[] had = new int[4];
      int[] got = new int[4];
      for (int h = 0; h < 4; h++) {
        had[h] = Integer.parseInt(text.substring(2 * h, 2 * h + 2));
      }
      for (int p = c.left / priceOn(meal, c.today, ""); p > 0; p--) {
        int to = 3;
        for (int h = 2; h >= 0; h--) {
          to = had[h] + got[h] <= had[to] + got[to] ? h : to;
        }
        got[to]++;
      }
      return got[hiker];
    }

    int week(int seed, int m, int what) {
      if (seed < 0 || seed > 9999 || m < 1 || m > 50 || what < 0 || what > 2) {
        return OUTSIDE;
      }
      int[] told = {c.left, 0, 0};
      long x = seed;
      for (int d = 0; d < m; d++) {
        for (int twice = 0; twice < 2; twice++) {
          x = (75 * x + 74) % 65537;
          int meal = (int) (x % 6);
          if (is(meal) && hot(meal)) {
            int price = price(meal, 0, x / 6 % 2 == 1 ? "s" : "");
            if (price <= told[0]) {
              told[0] -= price;
              told[1]++;
            } else {
              told[2]++;
            }
          }
        }
      }
      return told[what];
    }

    int set(int which, int v) {
      int[] most = {4000, 60, 6, 1, 13};
      if (which < 0 || which > 4 || v < 0 || v > most[which]) {
        return OUTSIDE;
      }
      int was = told(which + 1);
      switch (which) {
        case 0: c.left = v; break;
        case 1: c.height = v; break;
        case 2: c.shut = v; break;
        case 3: c.shield = v; break;
        default: c.today = v; break;
      }
      return was;
    }

    int told(int what) {
      switch (what) {
        case 0: return pad.length();
        case 1: return c.left;
        case 2: return c.height;
        case 3: return c.shut;
        case 4: return c.shield;
        case 5: return c.today;
        case 6: {
          int bits = 0;
          for (int m = 0; m < 6; m++) {
            bits += is(m) ? 1 << m : 0;
          }
          return bits;
        }
        case 7: return c.sights.size();
        case 8: return boilsAt();
        default: break;
      }
      if (what >= 20 && isDay(what - 20)) {
        return c.wind[what - 20] + (c.cold[what - 20] ? 10 : 0);
      }
      for (int m = 0; m < 6; m++) {
        for (int p = 0; p < 3; p++) {
          if (is(m) && what == 100 * (1 + m) + p) {
            return c.meals[m][p];
          }
        }
      }
      return OUTSIDE;
    }

    int day(int day, int wind, boolean cold) {
      if (!isDay(day)) {
        return UNKNOWN;
      }
      if (wind < 0 || wind > 4) {
        return OUTSIDE;
      }
      int was = c.wind[day];
      c.wind[day] = wind;
      c.cold[day] = cold;
      return was;
    }

    int meal(int meal, int q, int m, int d) {
      if (meal < 0 || meal > 5) {
        return UNKNOWN;
      }
      if (q < 1 || q > 4 || m < 0 || m > 60 || d < 1 || d > 100) {
        return OUTSIDE;
      }
      c.meals[meal] = new int[] {q, m, d};
      return Integer.bitCount(told(6));
    }

    int say(int sign) {
      if (sign < 33 || sign > 126) {
        return OUTSIDE;
      }
      if (pad.length() == 60) {
        return FULL;
      }
      pad += (char) sign;
      return pad.length();
    }

    int judge(int what) {
      if (what < 0 || what > 3) {
        return OUTSIDE;
      }
      if (fault() != NONE) {
        return NO;
      }
      Trip t = asTold();
      if (what >= 2 && t.bad != NONE) {
        return STATE;
      }
      return new int[] {t.bad, t.why, t.burnt, t.boiled}[what];
    }

    int behind(int what) {
      if (what < 0 || what > 2) {
        return OUTSIDE;
      }
      int r = refusal();
      Trip t = asTold();
      return r != 0 ? r : new int[] {t.left, t.day, t.cold ? 1 : 0}[what];
    }

    int cost(int act, int what) {
      if (what < 0 || what > 1) {
        return OUTSIDE;
      }
      int r = refusal();
      if (r != 0) {
        return r;
      }
      Trip t = asTold();
      return act < 0 || act >= t.costs.size() ? UNKNOWN : what == 0 ? t.costs.get(act) : t.byWind.get(act);
    }

    int spent(int day) {
      if (!isDay(day)) {
        return UNKNOWN;
      }
      int r = refusal();
      if (r != 0) {
        return r;
      }
      Trip t = asTold();
      int sum = 0;
      for (int i = 0; i < t.costs.size(); i++) {
        sum += t.days.get(i) == day ? t.costs.get(i) : 0;
      }
      return sum;
    }

    int done() {
      int r = refusal();
      if (r != 0) {
        return r;
      }
      Trip t = asTold();
      int n = acts().size();
      c.left = t.left;
      c.today = t.day;
      c.nights = t.nights;
      pad = "";
      return n;
    }

    int plain(int meal, int day, int ways) {
      if (!is(meal) || !isDay(day)) {
        return UNKNOWN;
      }
      if (ways < 0 || ways > 15) {
        return OUTSIDE;
      }
      String text = "";
      for (int b = 0; b < 4; b++) {
        text += (ways >> b & 1) == 1 ? "sohx".substring(b, b + 1) : "";
      }
      return priceOn(meal, day, text);
    }

    int seen(int acts, int mark) {
      if (acts < 0 || acts > 60 || mark < 0 || mark > 20) {
        return OUTSIDE;
      }
      if (c.sights.size() == 8) {
        return FULL;
      }
      c.sights.add(new int[] {acts, mark});
      return c.sights.size();
    }

    long call(String name, int[] a) {
      switch (name) {
        case "set": return set(a[0], a[1]);
        case "day": return day(a[0], a[1], a[2] % 2 != 0);
        case "meal": return meal(a[0], a[1], a[2], a[3]);
        case "say": return say(a[0]);
        case "wipe": {
          int was = pad.length();
          pad = "";
          return was;
        }
        case "fault": return fault();
        case "judge": return judge(a[0]);
        case "behind": return behind(a[0]);
        case "cost": return cost(a[0], a[1]);
        case "spent": return spent(a[0]);
        case "done": return done();
        case "plain": return plain(a[0], a[1], a[2]);
        case "shared": return shared(a[0], a[1]);
        case "most": return most(a[0], a[1], a[2]);
        case "least": return least(a[0], a[1]);
        case "ends": return ends(a[0]);
        case "mark": return c.left / 200;
        case "keep": return keep(a[0], a[1]);
        case "seen": return seen(a[0], a[1]);
        case "forget": {
          int were = c.sights.size();
          c.sights.clear();
          return were;
        }
        case "leaks": return leaksAnswer(a[0]);
        case "where": return where();
        case "weigh": return weigh(a[0]);
        case "gust": return gust(a[0], a[1], a[2]);
        case "shares": return shares(a[0], a[1], a[2]);
        case "week": return week(a[0], a[1], a[2]);
        case "image": {
          if (a[0] < 0 || a[0] > 1) {
            return OUTSIDE;
          }
          images[a[0]] = c.copy();
          return 1;
        }
        case "restore": {
          if (a[0] < 0 || a[0] > 1) {
            return OUTSIDE;
          }
          if (images[a[0]] == null) {
            return STATE;
          }
          c = images[a[0]].copy();
          return 1;
        }
        default: return told(a[0]);
      }
    }
  }

  private static long ask(OneCan x, String name, int[] a) {
    switch (name) {
      case "set": return x.set(a[0], a[1]);
      case "day": return x.day(a[0], a[1], a[2] % 2 != 0);
      case "meal": return x.meal(a[0], a[1], a[2], a[3]);
      case "say": return x.say(a[0]);
      case "wipe": return x.wipe();
      case "fault": return x.fault();
      case "judge": return x.judge(a[0]);
      case "behind": return x.behind(a[0]);
      case "cost": return x.cost(a[0], a[1]);
      case "spent": return x.spent(a[0]);
      case "done": return x.done();
      case "plain": return x.plain(a[0], a[1], a[2]);
      case "shared": return x.shared(a[0], a[1]);
      case "most": return x.most(a[0], a[1], a[2]);
      case "least": return x.least(a[0], a[1]);
      case "ends": return x.ends(a[0]);
      case "mark": return x.mark();
      case "keep": return x.keep(a[0], a[1]);
      case "seen": return x.seen(a[0], a[1]);
      case "forget": return x.forget();
      case "leaks": return x.leaks(a[0]);
      case "where": return x.where();
      case "weigh": return x.weigh(a[0]);
      case "gust": return x.gust(a[0], a[1], a[2]);
      case "shares": return x.shares(a[0], a[1], a[2]);
      case "week": return x.week(a[0], a[1], a[2]);
      case "image": return x.image(a[0]);
      case "restore": return x.restore(a[0]);
      default: return x.told(a[0]);
    }
  }

  /** Asks both, notes the call, and tells the run when they differ. */
  private static final class Pair {
    final OneCan x = new OneCan();
    final Model model = new Model();
    final List<String> log = new ArrayList<>();
    boolean same = true;

    long both(String name, int... a) {
      int[] args = Arrays.copyOf(a, 4);
      if (model.isLeftOpen(name, args)) {
        return NONE;
      }
      long want = model.call(name, args);
      long got = ask(x, name, args);
      log.add(name + Arrays.toString(a) + " = " + got);
      reached.merge(name + (want < -900 ? " " + (want - GONE) : want < 0 ? " " + want : " answered"), 1, Integer::sum);
      if (got != want && same) {
        same = false;
        System.out.println("run: " + log + ", due is " + want);
      }
      return want;
    }
  }

  private static final TreeMap<String, Integer> reached = new TreeMap<>();
  private static final int[] ODD = {-1, 0, 1, 2, 3, 4, 5, 6, 7, 13, 14, 15, 16, 20, 21, 60, 61, 99, 100, 102, 103, 10000,
      999999, 1000000, 99999999, 100000000, Integer.MAX_VALUE, Integer.MIN_VALUE, -2};

  private static int[] anyArgs(Random r) {
    int[] a = new int[4];
    for (int i = 0; i < 4; i++) {
      a[i] = r.nextInt(3) > 0 ? r.nextInt(8) : ODD[r.nextInt(ODD.length)];
    }
    return a;
  }

  private static String someAct(Random r, int meals) {
    if (r.nextInt(3) == 0) {
      return "....~~$$$".substring(r.nextInt(9)).substring(0, 1);
    }
    String act = String.valueOf((char) ('a' + r.nextInt(meals)));
    for (int w = 0; w < 4; w++) {
      act += r.nextInt(5) == 0 ? "sohx".substring(w, w + 1) : "";
    }
    return act;
  }

  private static void furnish(Pair p, Random r) {
    for (int m = 0; m < 6; m++) {
      if (r.nextInt(6) > 0) {
        int degrees = r.nextInt(4) > 0 ? 1 + r.nextInt(80) : 80 + r.nextInt(21);
        p.both("meal", m, 1 + r.nextInt(4), r.nextInt(2) * r.nextInt(61), degrees);
      }
    }
    for (int d = 0; d < 14; d++) {
      if (r.nextInt(2) == 0) {
        p.both("day", d, r.nextInt(5), r.nextInt(3) == 0 ? 1 : 0);
      }
    }
    p.both("set", 0, r.nextInt(4001));
    p.both("set", 1, r.nextInt(3) * r.nextInt(31));
    p.both("set", 2, r.nextInt(7));
    p.both("set", 3, r.nextInt(2));
    p.both("set", 4, r.nextInt(3) == 0 ? r.nextInt(14) : r.nextInt(7));
  }

  private static void tellPlan(Pair p, Random r) {
    p.both("wipe");
    String text = "";
    int acts = r.nextInt(6) == 0 ? 60 : r.nextInt(14);
    int meals = 1 + r.nextInt(6);
    for (int i = 0; i < acts; i++) {
      // Most ACTS that can not be are left out, so that most PLANS can be.
      String more = text + someAct(r, meals);
      p.model.pad = more;
      boolean can = p.model.refusal() == 0 || r.nextInt(60) == 0;
      text = can && more.length() <= 60 ? more : text;
    }
    p.model.pad = "";
    text += r.nextInt(12) == 0 ? String.valueOf((char) (33 + r.nextInt(94))) : "";
    for (int i = 0; i < text.length(); i++) {
      p.both("say", text.charAt(i));
    }
  }

  private static void askOfPlan(Pair p, Random r) {
    p.both("fault");
    for (int what = 0; what < 4; what++) {
      p.both("judge", what);
    }
    for (int what = 0; what < 3; what++) {
      p.both("behind", what);
    }
    p.both("cost", r.nextInt(10), r.nextInt(2));
    p.both("spent", r.nextInt(14));
    int t = r.nextInt(11);
    for (int k = 0; k < 4; k++) {
      p.both("gust", t, k / 2, k % 2);
    }
  }

  /** SIGHTS of a leak that there may have been, and some that are not so. */
  private static void askOfLeaks(Pair p, Random r) {
    p.both("forget");
    int n = p.model.acts().size();
    if (p.model.refusal() == 0 && n > 0) {
      Trip t = p.model.trip(p.model.c.wind, false, r.nextInt(n), 1 + r.nextInt(120));
      for (int s = r.nextInt(4); s > 0 && t.leakFits && t.bad == NONE; s--) {
        int at = r.nextInt(n + 1);
        p.both("seen", at, t.lefts.get(at) / 200);
      }
    }
    if (r.nextInt(6) == 0) {
      p.both("seen", r.nextInt(n + 2), r.nextInt(21));
    }
    long many = p.both("leaks", -1);
    if (many > 0) {
      p.both("leaks", r.nextInt((int) many));
      p.both("leaks", (int) many - 1);
      p.both("leaks", (int) many);
    }
    p.both("where");
    p.both("weigh", 0);
    p.both("weigh", 1);
  }

  private static int somePortions(Pair p, Random r) {
    int number = 0;
    for (int m = 0; m < 6; m++) {
      boolean some = p.model.is(m) && r.nextInt(3) > 0 || r.nextInt(60) == 0;
      number = 10 * number + (some ? r.nextInt(r.nextInt(5) == 0 ? 10 : 4) : 0);
    }
    return number;
  }

  private static void askOfPortions(Pair p, Random r) {
    int portions = somePortions(p, r);
    int day = r.nextInt(8) == 0 ? r.nextInt(15) : Math.min(13, p.model.c.today + r.nextInt(7));
    p.both("shared", portions, day);
    p.both("most", portions, day, 0);
    p.both("most", portions, day, 1);
    p.both("least", portions, day);
    int meal = r.nextInt(6);
    p.both("ends", meal);
    p.both("keep", meal, r.nextInt(14));
    p.both("plain", meal, r.nextInt(14), r.nextInt(16));
    p.both("shares", meal, r.nextInt(40) * 1000000 + r.nextInt(30) * 10000 + r.nextInt(30) * 100 + r.nextInt(20), r.nextInt(4));
    p.both("week", r.nextInt(10000), 1 + r.nextInt(50), r.nextInt(3));
    p.both("mark");
  }

  /** Nights in the bag, DONE in small PLANS, so that what is behind one shows in the next. */
  private static void sleepInBag(Pair p, Random r) {
    int meal = r.nextInt(6);
    p.both("meal", meal, 1, 0, 1);
    for (int turn = 0; turn < 4; turn++) {
      p.both("day", Math.min(13, p.model.c.today + r.nextInt(3)), r.nextInt(3), r.nextInt(4) > 0 ? 1 : 0);
      p.both("set", 0, 4000);
      p.both("wipe");
      String text = new String[] {"~", "~.", ".", "~.~", "", "~~.", "A~", "AH.~"}[r.nextInt(8)];
      tellSmall(p, text, meal);
      if (r.nextInt(4) > 0) {
        p.both("done");
      }
      int odd = r.nextInt(8);
      if (odd < 2) {
        p.both(odd == 0 ? "image" : "restore", r.nextInt(2));
      } else if (odd < 5) {
        // Near the DAY that it is, so that DAYS whose numbers have been warmed come again.
        int was = p.model.c.today;
        p.both("set", 4, odd == 2 ? r.nextInt(14) : Math.max(0, was - r.nextInt(3)));
        if (r.nextBoolean()) {
          goOnElsewhere(p, r, meal, was);
        }
      }
      p.both("wipe");
      tellSmall(p, new String[] {"AH", ".AH", "AH.AH", "..AH", ".AH.AH"}[r.nextInt(5)], meal);
      p.both("judge", 0);
      p.both("behind", 2);
      p.both("gust", 1, 1, 0);
      p.both("leaks", -1);
    }
  }

  /** Back to the DAY that it was, with or without a PLAN that is DONE on another one. */
  private static void goOnElsewhere(Pair p, Random r, int meal, int was) {
    if (r.nextBoolean()) {
      p.both("wipe");
      tellSmall(p, new String[] {"A", "~", ".", "~."}[r.nextInt(4)], meal);
      p.both("done");
    }
    p.both("set", 4, was);
  }

  private static void tellSmall(Pair p, String text, int meal) {
    for (int i = 0; i < text.length(); i++) {
      char sign = text.charAt(i);
      p.both("say", sign == 'A' ? 'a' + meal : sign == 'H' ? 'h' : sign);
    }
  }

  private static boolean run(long seed) {
    Random r = new Random(seed);
    Pair p = new Pair();
    if (r.nextInt(10) > 0) {
      furnish(p, r);
    }
    while (p.log.size() < 350 && p.same) {
      int turn = r.nextInt(13);
      if (turn < 4) {
        tellPlan(p, r);
        askOfPlan(p, r);
        askOfLeaks(p, r);
        if (r.nextInt(3) == 0) {
          p.both("done");
          askOfPlan(p, r);
        }
      } else if (turn < 8) {
        askOfPortions(p, r);
      } else if (turn == 12) {
        sleepInBag(p, r);
      } else if (turn == 8) {
        p.both("image", r.nextInt(2));
        p.both("set", r.nextInt(5), r.nextInt(14));
      } else if (turn == 9) {
        p.both("restore", r.nextInt(2));
        for (int what = 0; what < 9; what++) {
          p.both("told", what);
        }
        p.both("told", 20 + r.nextInt(14));
        p.both("told", 100 * (1 + r.nextInt(6)) + r.nextInt(4));
      } else {
        for (int i = 0; i < 5; i++) {
          p.both(CALLS[r.nextInt(CALLS.length)], anyArgs(r));
        }
      }
    }
    return p.same;
  }

  public static void main(String[] args) {
    Watch.start();
    int runs = args.length > 0 ? Integer.parseInt(args[0]) : 150;
    long from = args.length > 1 ? Long.parseLong(args[1]) : 1;
    int wrong = 0;
    for (long seed = from; seed < from + runs && wrong < 5; seed++) {
      wrong += run(seed) ? 0 : 1;
    }
    for (String name : CALLS) {
      if (!reached.containsKey(name + " answered")) {
        wrong++;
        System.out.println(name + " was never answered");
      }
    }
    if (args.length > 2) {
      System.out.println(reached);
    }
    System.out.println(runs + " runs, " + wrong + " wrong");
    if (wrong != 0) {
      System.exit(1);
    }
  }
}
