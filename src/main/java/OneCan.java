/**
 * One can of gas that is to do for days: meals, days, plans of what is boiled, and what can be told of them.
 * The words in capitals are those of the document (../shared/DOC.md), which says what each call answers.
 */
public final class OneCan {
    public static final int UNKNOWN = -1, OUTSIDE = -2, STATE = -3, FULL = -4, NO = -5, NONE = -6;
    public static final long GONE = -1000000000000000000L;

    private static final int DAYS = 14, MEALS = 6, SIGNS = 60, SIGHTS = 8, MARKS = 21, HIKERS = 4, IMAGES = 2;
    private static final int CAN = 4000, CAN_AT_FIRST = 800, SHOP_SELLS = 1000, MARK_STEP = 200;
    private static final int POT = 4, MAX_WIND = 4, GUST = 2;
    private static final int MOST_SPREAD = 12, MOST_GUST_DAYS = 8;
    private static final int LEAK_STEP = 10, MOST_LEAK = 200, WHERE_BITS = 30;

    /** The settings of Camp, by the numbers that set() gives them; told() gives each one more. */
    private static final int LEFT = 0, HEIGHT = 1, SHUT = 2, SHIELD = 3, TODAY = 4;
    private static final int[] SETTING_LIMITS = {4000, 60, 6, 1, 13};

    /** Kinds of ACTS behind the MEALS, whose kinds are their numbers. */
    private static final int NIGHT = MEALS, BAG = MEALS + 1, SHOP = MEALS + 2;
    private static final String KINDS = "abcdef.~$";

    /** The place of a way's sign is its bit. */
    private static final String WAYS = "sohx";
    private static final int SNOW = 1, OPEN = 2, HIGH = 4, WRAPPED = 8;

    private static final int NO_MEAL = 1, NOT_HOT = 2, TOO_COLD = 3, NO_GAS = 4, SHOP_SHUT = 5, LAST_DAY = 6;

    private final Camp camp;
    private final Pad pad;
    private final Course course;
    private final Order order;
    private final Search search;
    private final Gusts gusts;
    private final Week weeks;
    private final Camp[] images;
    private final boolean[] kept;
    private final int[] dealt;

    public OneCan() {
        camp = new Camp();
        pad = new Pad();
        course = new Course(camp, pad);
        order = new Order(camp);
        search = new Search(camp, pad, course);
        gusts = new Gusts(camp, pad, course);
        weeks = new Week(camp);
        images = new Camp[IMAGES];
        kept = new boolean[IMAGES];
        for (int k = 0; k < IMAGES; k++) {
            images[k] = new Camp();
        }
        dealt = new int[HIKERS];
    }

    // ---- 1 days, meals

    public int set(int which, int v) {
        if (!isIn(which, 0, TODAY) || !isIn(v, 0, SETTING_LIMITS[which])) {
            return OUTSIDE;
        }
        int was = camp.settings[which];
        camp.settings[which] = v;
        return was;
    }

    public int day(int day, int wind, boolean cold) {
        if (!isDay(day)) {
            return UNKNOWN;
        }
        if (!isIn(wind, 0, MAX_WIND)) {
            return OUTSIDE;
        }
        int was = camp.winds[day];
        camp.winds[day] = wind;
        camp.colds[day] = cold;
        return was;
    }

    public int meal(int meal, int quarts, int minutes, int degrees) {
        if (!isIn(meal, 0, MEALS - 1)) {
            return UNKNOWN;
        }
        if (!isIn(quarts, 1, POT) || !isIn(minutes, 0, 60) || !isIn(degrees, 1, 100)) {
            return OUTSIDE;
        }
        camp.meals |= 1 << meal;
        camp.quarts[meal] = quarts;
        camp.minutes[meal] = minutes;
        camp.degrees[meal] = degrees;
        return Integer.bitCount(camp.meals);
    }

    public int say(int sign) {
        if (!isIn(sign, 33, 126)) {
            return OUTSIDE;
        }
        if (pad.size >= SIGNS) {
            return FULL;
        }
        pad.signs[pad.size] = sign;
        pad.size++;
        return pad.size;
    }

    public int wipe() {
        int was = pad.size;
        pad.size = 0;
        return was;
    }

    public int fault() {
        pad.read();
        return pad.wrong;
    }

    // ---- 2 plans

    public int judge(int what) {
        if (!isIn(what, 0, 3)) {
            return OUTSIDE;
        }
        int refused = planRefusal(false);
        if (refused == NO || (refused == STATE && what >= 2)) {
            return refused;
        }
        switch (what) {
            case 0:
                return course.bad;
            case 1:
                return course.why;
            case 2:
                return course.burnt;
            default:
                return course.boiled;
        }
    }

    public int behind(int what) {
        if (!isIn(what, 0, 2)) {
            return OUTSIDE;
        }
        int refused = planRefusal(false);
        if (refused != 0) {
            return refused;
        }
        if (what == 0) {
            return course.left;
        }
        if (what == 1) {
            return course.day;
        }
        return course.isCold() ? 1 : 0;
    }

    public int cost(int act, int what) {
        if (!isIn(what, 0, 1)) {
            return OUTSIDE;
        }
        int refused = planRefusal(false);
        if (refused != 0) {
            return refused;
        }
        if (!isIn(act, 0, pad.acts - 1)) {
            return UNKNOWN;
        }
        return what == 0 ? course.burns[act] : course.byWind[act];
    }

    public int spent(int day) {
        if (!isDay(day)) {
            return UNKNOWN;
        }
        int refused = planRefusal(false);
        return refused != 0 ? refused : course.burntOn(day);
    }

    public int done() {
        int refused = planRefusal(false);
        if (refused != 0) {
            return refused;
        }
        camp.settings[LEFT] = course.left;
        camp.settings[TODAY] = course.day;
        camp.warmDay = course.warmDay;
        camp.bagDays = course.bagDays;
        pad.size = 0;
        return pad.acts;
    }

    public int plain(int meal, int day, int ways) {
        if (!camp.has(meal) || !isDay(day)) {
            return UNKNOWN;
        }
        return isIn(ways, 0, 15) ? camp.toBoil(meal, camp.windOn(day, 0), ways) : OUTSIDE;
    }

    // ---- 3 portions, marks

    public int shared(int portions, int day) {
        int refused = orderRefusal(portions, day);
        return refused != 0 ? refused : order.inSharedPots(day);
    }

    public int most(int portions, int day, int what) {
        if (!isIn(what, 0, 1)) {
            return OUTSIDE;
        }
        int refused = spreadRefusal(portions, day);
        return refused != 0 ? refused : order.mostWithin(day, what == 1);
    }

    public int least(int portions, int day) {
        int refused = spreadRefusal(portions, day);
        return refused != 0 ? refused : order.leastByTwos(day);
    }

    public int ends(int meal) {
        if (!camp.has(meal)) {
            return UNKNOWN;
        }
        if (!camp.isHot(meal)) {
            return STATE;
        }
        int left = camp.settings[LEFT];
        for (int day = camp.settings[TODAY]; day < DAYS; day++) {
            left -= camp.toBoilOn(meal, day, 0);
            if (left < 0) {
                return day;
            }
        }
        return NONE;
    }

    public int mark() {
        return camp.settings[LEFT] / MARK_STEP;
    }

    public int keep(int meal, int day) {
        if (!camp.has(meal) || !isDay(day)) {
            return UNKNOWN;
        }
        int sum = 0;
        for (int later = day + 1; later < DAYS; later++) {
            sum += camp.toBoilOn(meal, later, SNOW);
        }
        return sum;
    }

    // ---- 4 leaks, gusts

    public int seen(int acts, int mark) {
        if (!isIn(acts, 0, SIGNS) || !isIn(mark, 0, MARKS - 1)) {
            return OUTSIDE;
        }
        if (camp.sights >= SIGHTS) {
            return FULL;
        }
        camp.sightActs[camp.sights] = acts;
        camp.sightMarks[camp.sights] = mark;
        camp.sights++;
        return camp.sights;
    }

    public int forget() {
        int were = camp.sights;
        camp.sights = 0;
        return were;
    }

    public int leaks(int i) {
        int refused = searchRefusal();
        if (refused != 0) {
            return refused;
        }
        return i == -1 ? search.count : search.nth(i);
    }

    public int where() {
        int refused = searchRefusal();
        return refused != 0 ? refused : search.actsAsBits();
    }

    public int weigh(int what) {
        if (!isIn(what, 0, 1)) {
            return OUTSIDE;
        }
        int refused = searchRefusal();
        if (refused != 0) {
            return refused;
        }
        search.chooseReading();
        return what == 0 ? search.readBehind : search.stillLeft;
    }

    public long gust(int t, int what, int part) {
        int refused = gustRefusal(t, what, part);
        if (refused != 0) {
            return GONE + refused;
        }
        if (what == 0) {
            gusts.findChance(t);
        } else {
            gusts.findMean(t);
        }
        return part == 0 ? gusts.upper : gusts.lower;
    }

    public int shares(int meal, int drunk, int hiker) {
        if (!camp.has(meal) || !isIn(hiker, 0, HIKERS - 1)) {
            return UNKNOWN;
        }
        if (!isIn(drunk, 0, 99999999)) {
            return OUTSIDE;
        }
        int price = camp.toBoilOn(meal, camp.settings[TODAY], 0);
        int portions = price > 0 ? camp.settings[LEFT] / price : 0;
        return deal(portions, drunk, hiker);
    }

    public int week(int seed, int m, int what) {
        if (!isIn(seed, 0, 9999) || !isIn(m, 1, 50) || !isIn(what, 0, 2)) {
            return OUTSIDE;
        }
        weeks.live(seed, m);
        if (what == 0) {
            return weeks.left;
        }
        return what == 1 ? weeks.boiled : weeks.wanting;
    }

    public int image(int k) {
        if (!isIn(k, 0, IMAGES - 1)) {
            return OUTSIDE;
        }
        images[k].copyFrom(camp);
        kept[k] = true;
        return 1;
    }

    public int restore(int k) {
        if (!isIn(k, 0, IMAGES - 1)) {
            return OUTSIDE;
        }
        if (!kept[k]) {
            return STATE;
        }
        camp.copyFrom(images[k]);
        return 1;
    }

    public int told(int what) {
        if (isIn(what, 1, 1 + TODAY)) {
            return camp.settings[what - 1];
        }
        if (isIn(what, 20, 20 + DAYS - 1)) {
            int day = what - 20;
            return camp.winds[day] + (camp.colds[day] ? 10 : 0);
        }
        if (what >= 100) {
            return toldOfMeal(what / 100 - 1, what % 100);
        }
        switch (what) {
            case 0:
                return pad.size;
            case 6:
                return camp.meals;
            case 7:
                return camp.sights;
            case 8:
                return camp.boilsAt();
            default:
                return OUTSIDE;
        }
    }

    // ---- what the calls have in common

    private static boolean isIn(int v, int least, int greatest) {
        return v >= least && v <= greatest;
    }

    private static boolean isDay(int day) {
        return isIn(day, 0, DAYS - 1);
    }

    /** NO, STATE, or 0: the whole PLAN has been run and can be. */
    private int planRefusal(boolean gasWithoutEnd) {
        pad.read();
        if (pad.wrong != NONE) {
            return NO;
        }
        course.run(gasWithoutEnd);
        return course.bad != NONE ? STATE : 0;
    }

    private int orderRefusal(int portions, int day) {
        if (!isIn(portions, 0, 999999)) {
            return OUTSIDE;
        }
        order.read(portions);
        return isDay(day) && order.isOfMealsThatAre() ? 0 : UNKNOWN;
    }

    private int spreadRefusal(int portions, int day) {
        int refused = orderRefusal(portions, day);
        if (refused != 0) {
            return refused;
        }
        if (day < camp.settings[TODAY]) {
            return UNKNOWN;
        }
        return order.total > MOST_SPREAD ? FULL : 0;
    }

    private int searchRefusal() {
        int refused = planRefusal(false);
        if (refused == 0) {
            search.find();
        }
        return refused;
    }

    private int gustRefusal(int t, int what, int part) {
        if (!isIn(t, 0, 10) || !isIn(what, 0, 1) || !isIn(part, 0, 1)) {
            return OUTSIDE;
        }
        int refused = planRefusal(true);
        if (refused != 0) {
            return refused;
        }
        return gusts.days() > MOST_GUST_DAYS ? FULL : 0;
    }

    private int deal(int portions, int drunk, int hiker) {
        int rest = drunk;
        for (int h = HIKERS - 1; h >= 0; h--) {
            dealt[h] = rest % 100;
            rest /= 100;
        }
        int had = dealt[hiker];
        for (int p = 0; p < portions; p++) {
            int thirsty = 0;
            for (int h = 1; h < HIKERS; h++) {
                if (dealt[h] < dealt[thirsty]) {
                    thirsty = h;
                }
            }
            dealt[thirsty]++;
        }
        return dealt[hiker] - had;
    }

    private int toldOfMeal(int meal, int part) {
        if (!camp.has(meal)) {
            return OUTSIDE;
        }
        switch (part) {
            case 0:
                return camp.quarts[meal];
            case 1:
                return camp.minutes[meal];
            case 2:
                return camp.degrees[meal];
            default:
                return OUTSIDE;
        }
    }

    /** All that an IMAGE keeps. */
    private static final class Camp {
        final int[] settings = new int[TODAY + 1];
        final int[] winds = new int[DAYS];
        final boolean[] colds = new boolean[DAYS];
        /**
         * By PLANS that are DONE: the DAY that the night that came last warms (NONE: it was not in the bag), and, as
         * bits, the DAYS on which ~ was said since. Apart from colds, for what day() told stays told. Both by the
         * DAYS' numbers, for set() may lead to another DAY, which is not the one that is warmed; and both since the
         * last night alone, for set() may lead to the same number by another night.
         */
        int warmDay = NONE;
        int bagDays;
        int meals;
        final int[] quarts = new int[MEALS];
        final int[] minutes = new int[MEALS];
        final int[] degrees = new int[MEALS];
        int sights;
        final int[] sightActs = new int[SIGHTS];
        final int[] sightMarks = new int[SIGHTS];

        Camp() {
            settings[LEFT] = CAN_AT_FIRST;
        }

        void copyFrom(Camp other) {
            System.arraycopy(other.settings, 0, settings, 0, TODAY + 1);
            System.arraycopy(other.winds, 0, winds, 0, DAYS);
            for (int day = 0; day < DAYS; day++) {
                colds[day] = other.colds[day];
            }
            warmDay = other.warmDay;
            bagDays = other.bagDays;
            meals = other.meals;
            System.arraycopy(other.quarts, 0, quarts, 0, MEALS);
            System.arraycopy(other.minutes, 0, minutes, 0, MEALS);
            System.arraycopy(other.degrees, 0, degrees, 0, MEALS);
            sights = other.sights;
            System.arraycopy(other.sightActs, 0, sightActs, 0, SIGHTS);
            System.arraycopy(other.sightMarks, 0, sightMarks, 0, SIGHTS);
        }

        boolean has(int meal) {
            return isIn(meal, 0, MEALS - 1) && (meals >> meal & 1) == 1;
        }

        int boilsAt() {
            return 100 - settings[HEIGHT] / 3;
        }

        boolean isHot(int meal) {
            return degrees[meal] <= boilsAt();
        }

        boolean isShopShut(int day) {
            return day % 7 == settings[SHUT];
        }

        /** The WIND that counts, behind the SHIELD, if a gust brings so much more. */
        int windOn(int day, int gust) {
            int wind = Math.min(winds[day] + gust, MAX_WIND);
            return settings[SHIELD] == 1 ? Math.max(wind - 2, 0) : wind;
        }

        int toBoil(int meal, int wind, int ways) {
            int sum = 4 + wind;
            int perMinute = 1;
            if ((ways & OPEN) != 0) {
                sum++;
            }
            if ((ways & HIGH) != 0) {
                sum++;
                perMinute = 2;
            }
            if ((ways & WRAPPED) != 0) {
                perMinute = 0;
            }
            return water(meal, ways) * sum + perMinute * minutes[meal];
        }

        int byWind(int meal, int wind, int ways) {
            return water(meal, ways) * wind;
        }

        int toBoilOn(int meal, int day, int ways) {
            return toBoil(meal, windOn(day, 0), ways);
        }

        private int water(int meal, int ways) {
            int once = 11 * quarts[meal];
            return (ways & SNOW) != 0 ? 2 * once : once;
        }
    }

    /** The signs that were said, and the ACTS that they tell. */
    private static final class Pad {
        final int[] signs = new int[SIGNS];
        int size;
        final int[] kinds = new int[SIGNS];
        final int[] ways = new int[SIGNS];
        int acts;
        int wrong;

        void read() {
            acts = 0;
            wrong = NONE;
            int nextWay = WAYS.length();
            for (int i = 0; i < size && wrong == NONE; i++) {
                int kind = KINDS.indexOf((char) signs[i]);
                int way = WAYS.indexOf((char) signs[i]);
                if (kind >= 0) {
                    kinds[acts] = kind;
                    ways[acts] = 0;
                    acts++;
                    nextWay = kind < MEALS ? 0 : WAYS.length();
                } else if (way >= nextWay && acts > 0) {
                    ways[acts - 1] |= 1 << way;
                    nextWay = way + 1;
                } else {
                    wrong = i;
                }
            }
        }
    }

    /** The PLAN being run, up to the first ACT that can not be. */
    private static final class Course {
        private final Camp camp;
        private final Pad pad;
        /** By ACT: the DAY, what it burns, what of it is by the WIND. */
        final int[] days = new int[SIGNS];
        final int[] burns = new int[SIGNS];
        final int[] byWind = new int[SIGNS];
        /** LEFT by how many ACTS it is behind. */
        final int[] lefts = new int[SIGNS + 1];
        int bad;
        int why;
        int left;
        int day;
        /** As of a Camp. */
        int warmDay;
        int bagDays;
        int burnt;
        int boiled;

        Course(Camp camp, Pad pad) {
            this.camp = camp;
            this.pad = pad;
        }

        void run(boolean gasWithoutEnd) {
            bad = NONE;
            why = NONE;
            left = camp.settings[LEFT];
            day = camp.settings[TODAY];
            warmDay = camp.warmDay;
            bagDays = camp.bagDays;
            burnt = 0;
            boiled = 0;
            lefts[0] = left;
            for (int act = 0; act < pad.acts && bad == NONE; act++) {
                ready(act);
                int reason = hindrance(act, gasWithoutEnd);
                if (reason != 0) {
                    bad = act;
                    why = reason;
                } else {
                    carryOut(act);
                }
            }
        }

        int burntOn(int asked) {
            int sum = 0;
            for (int act = 0; act < pad.acts; act++) {
                if (days[act] == asked) {
                    sum += burns[act];
                }
            }
            return sum;
        }

        boolean isCold() {
            return camp.colds[day] && day != warmDay;
        }

        private void ready(int act) {
            int kind = pad.kinds[act];
            boolean boils = camp.has(kind);
            int wind = camp.windOn(day, 0);
            days[act] = day;
            burns[act] = boils ? camp.toBoil(kind, wind, pad.ways[act]) : 0;
            byWind[act] = boils ? camp.byWind(kind, wind, pad.ways[act]) : 0;
        }

        private int hindrance(int act, boolean gasWithoutEnd) {
            int kind = pad.kinds[act];
            switch (kind) {
                case NIGHT:
                    return day == DAYS - 1 ? LAST_DAY : 0;
                case BAG:
                    return 0;
                case SHOP:
                    return camp.isShopShut(day) ? SHOP_SHUT : 0;
                default:
                    break;
            }
            if (!camp.has(kind)) {
                return NO_MEAL;
            }
            if (!camp.isHot(kind)) {
                return NOT_HOT;
            }
            if (isCold() && (pad.ways[act] & HIGH) != 0) {
                return TOO_COLD;
            }
            return !gasWithoutEnd && burns[act] > left ? NO_GAS : 0;
        }

        private void carryOut(int act) {
            switch (pad.kinds[act]) {
                case NIGHT:
                    warmDay = (bagDays >> day & 1) == 1 ? day + 1 : NONE;
                    bagDays = 0;
                    day++;
                    break;
                case BAG:
                    bagDays |= 1 << day;
                    break;
                case SHOP:
                    left = Math.min(left + SHOP_SELLS, CAN);
                    break;
                default:
                    left -= burns[act];
                    burnt += burns[act];
                    boiled++;
                    break;
            }
            lefts[act + 1] = left;
        }
    }

    /** Portions of MEALS, and what they burn at the least. */
    private static final class Order {
        private final Camp camp;
        private final int[] portions = new int[MEALS];
        int total;
        private final int[] prices = new int[MEALS];
        private final int[] values = new int[MEALS];
        private final int[] slots = new int[MAX_WIND + 1];

        Order(Camp camp) {
            this.camp = camp;
        }

        void read(int number) {
            int rest = number;
            total = 0;
            for (int meal = MEALS - 1; meal >= 0; meal--) {
                portions[meal] = rest % 10;
                total += portions[meal];
                rest /= 10;
            }
        }

        boolean isOfMealsThatAre() {
            for (int meal = 0; meal < MEALS; meal++) {
                if (portions[meal] > 0 && !camp.has(meal)) {
                    return false;
                }
            }
            return true;
        }

        int inSharedPots(int day) {
            int sum = 0;
            for (int meal = 0; meal < MEALS; meal++) {
                if (portions[meal] > 0) {
                    // Water counts by the portion, so fewest pots burn least: only their MINUTES differ.
                    int water = camp.toBoilOn(meal, day, WRAPPED) * portions[meal];
                    sum += water + potsFor(meal) * camp.minutes[meal];
                }
            }
            return sum;
        }

        private int potsFor(int meal) {
            int inOnePot = POT / Math.max(camp.quarts[meal], 1);
            return (portions[meal] + inOnePot - 1) / Math.max(inOnePot, 1);
        }

        int mostWithin(int lastDay, boolean byWorth) {
            int calmest = MAX_WIND;
            for (int day = camp.settings[TODAY]; day <= lastDay; day++) {
                calmest = Math.min(calmest, camp.windOn(day, 0));
            }
            for (int meal = 0; meal < MEALS; meal++) {
                prices[meal] = camp.toBoil(meal, calmest, 0);
                values[meal] = byWorth ? camp.minutes[meal] + camp.quarts[meal] : 1;
                if (!camp.isHot(meal)) {
                    portions[meal] = 0;
                }
            }
            return bestFrom(0, camp.settings[LEFT], portions, prices, values);
        }

        private static int bestFrom(int meal, int left, int[] portions, int[] prices, int[] values) {
            if (meal >= MEALS) {
                return 0;
            }
            int best = 0;
            for (int n = 0; n <= portions[meal] && n * prices[meal] <= left; n++) {
                int rest = bestFrom(meal + 1, left - n * prices[meal], portions, prices, values);
                best = Math.max(best, n * values[meal] + rest);
            }
            return best;
        }

        int leastByTwos(int lastDay) {
            int sum = 0;
            for (int meal = 0; meal < MEALS; meal++) {
                if (portions[meal] > 0 && !camp.isHot(meal)) {
                    return NONE;
                }
                sum += portions[meal] * camp.toBoil(meal, 0, 0);
            }
            countSlots(lastDay);
            // The largest pots on the calmest DAYS: no exchange of two portions burns less.
            for (int quarts = POT; quarts >= 1; quarts--) {
                int ofThese = portionsOf(quarts);
                for (int wind = 0; wind <= MAX_WIND; wind++) {
                    int here = Math.min(ofThese, slots[wind]);
                    slots[wind] -= here;
                    ofThese -= here;
                    sum += here * 11 * quarts * wind;
                }
                if (ofThese > 0) {
                    return NONE;
                }
            }
            return sum;
        }

        private void countSlots(int lastDay) {
            for (int wind = 0; wind <= MAX_WIND; wind++) {
                slots[wind] = 0;
            }
            for (int day = camp.settings[TODAY]; day <= lastDay; day++) {
                slots[camp.windOn(day, 0)] += 2;
            }
        }

        private int portionsOf(int quarts) {
            int sum = 0;
            for (int meal = 0; meal < MEALS; meal++) {
                if (camp.quarts[meal] == quarts) {
                    sum += portions[meal];
                }
            }
            return sum;
        }
    }

    /** LEAKS of a PLAN that has been run and can be. For one ACT the v that fit are without a gap. */
    private static final class Search {
        private final Camp camp;
        private final Pad pad;
        private final Course course;
        /** By how many ACTS it is behind: what may be LEFT so that all is right from there on. */
        private final int[] low = new int[SIGNS + 1];
        private final int[] high = new int[SIGNS + 1];
        /** By ACT: the v that fit; none, if the first is above the last. */
        private final int[] first = new int[SIGNS];
        private final int[] last = new int[SIGNS];
        private final int[] byMark = new int[MARKS];
        int count;
        int readBehind;
        int stillLeft;

        Search(Camp camp, Pad pad, Course course) {
            this.camp = camp;
            this.pad = pad;
            this.course = course;
        }

        void find() {
            boolean allWithin = boundBySights();
            int rightTo = allWithin ? rightWithoutLeak() : -1;
            boundByActs();
            count = 0;
            for (int act = 0; act < pad.acts; act++) {
                int left = course.lefts[act + 1];
                first[act] = Math.max(1, Math.floorDiv(left - high[act + 1] + LEAK_STEP - 1, LEAK_STEP));
                last[act] = Math.min(MOST_LEAK, Math.floorDiv(left - low[act + 1], LEAK_STEP));
                if (act > rightTo) {
                    last[act] = 0;
                }
                count += fitting(act);
            }
        }

        int nth(int i) {
            int rest = i;
            for (int act = 0; act < pad.acts && rest >= 0; act++) {
                if (rest < fitting(act)) {
                    return 1000 * act + first[act] + rest;
                }
                rest -= fitting(act);
            }
            return NONE;
        }

        int actsAsBits() {
            int bits = 0;
            for (int act = 0; act < pad.acts && act < WHERE_BITS; act++) {
                if (fitting(act) > 0) {
                    bits |= 1 << act;
                }
            }
            return bits;
        }

        void chooseReading() {
            readBehind = NONE;
            stillLeft = NONE;
            for (int act = 0; act < pad.acts && count > 0; act++) {
                int worst = worstBehind(act);
                if (readBehind == NONE || worst < stillLeft) {
                    readBehind = act;
                    stillLeft = worst;
                }
            }
        }

        private int fitting(int act) {
            return Math.max(0, last[act] - first[act] + 1);
        }

        /** Whether no SIGHT is behind more ACTS than there are. */
        private boolean boundBySights() {
            for (int n = 0; n <= pad.acts; n++) {
                low[n] = 0;
                high[n] = CAN;
            }
            boolean allWithin = true;
            for (int s = 0; s < camp.sights; s++) {
                int n = camp.sightActs[s];
                if (n > pad.acts) {
                    allWithin = false;
                } else {
                    low[n] = Math.max(low[n], camp.sightMarks[s] * MARK_STEP);
                    high[n] = Math.min(high[n], camp.sightMarks[s] * MARK_STEP + MARK_STEP - 1);
                }
            }
            return allWithin;
        }

        /** The last ACT ahead of which all SIGHTS are so while nothing has gone yet. */
        private int rightWithoutLeak() {
            for (int n = 0; n < pad.acts; n++) {
                if (!isIn(course.lefts[n], low[n], high[n])) {
                    return n - 1;
                }
            }
            return pad.acts;
        }

        /** Goes back through the ACTS: what is right ahead of one is what it makes right behind it. */
        private void boundByActs() {
            for (int act = pad.acts - 1; act >= 0; act--) {
                int least = low[act + 1] + course.burns[act];
                int greatest = high[act + 1] + course.burns[act];
                if (pad.kinds[act] == SHOP) {
                    // A can that is full behind the shop may have held anything above; where nothing
                    // is right behind it, nothing may become right ahead of it.
                    boolean anyAbove = greatest >= CAN && least <= CAN;
                    least = Math.max(0, least - SHOP_SELLS);
                    greatest = anyAbove ? CAN : greatest - SHOP_SELLS;
                }
                low[act] = Math.max(low[act], least);
                high[act] = Math.min(high[act], greatest);
            }
        }

        /** How many LEAKS are left at the most when the MARK behind an ACT is read. */
        private int worstBehind(int read) {
            for (int m = 0; m < MARKS; m++) {
                byMark[m] = 0;
            }
            for (int act = read + 1; act < pad.acts; act++) {
                tally(course.lefts[read + 1], fitting(act));
            }
            // From behind an ACT to behind the one read, what is LEFT becomes min(LEFT + more, cap).
            int more = 0;
            int cap = CAN;
            for (int act = read; act >= 0; act--) {
                tallyLeaksAt(act, more, cap);
                if (pad.kinds[act] == SHOP) {
                    cap = Math.min(cap, CAN + more);
                    more += SHOP_SELLS;
                } else {
                    more -= course.burns[act];
                }
            }
            int worst = 0;
            for (int m = 0; m < MARKS; m++) {
                worst = Math.max(worst, byMark[m]);
            }
            return worst;
        }

        private void tallyLeaksAt(int act, int more, int cap) {
            int whole = course.lefts[act + 1] + more;
            int next;
            for (int v = first[act]; v <= last[act]; v = next) {
                int left = Math.min(whole - LEAK_STEP * v, cap);
                int floor = Math.floorDiv(left, MARK_STEP) * MARK_STEP;
                int lastAlike = Math.floorDiv(whole - floor, LEAK_STEP);
                next = Math.max(v, Math.min(lastAlike, last[act])) + 1;
                tally(left, next - v);
            }
        }

        private void tally(int left, int leaks) {
            int m = Math.floorDiv(left, MARK_STEP);
            if (isIn(m, 0, MARKS - 1)) {
                byMark[m] += leaks;
            }
        }
    }

    /** GUST: of a PLAN that has been run and can be, were there gas without end. */
    private static final class Gusts {
        private final Camp camp;
        private final Pad pad;
        private final Course course;
        /** By ACT: what it burns on a DAY with a gust; course.burns tells it without. */
        private final int[] gusty = new int[SIGNS];
        long upper;
        long lower;

        Gusts(Camp camp, Pad pad, Course course) {
            this.camp = camp;
            this.pad = pad;
            this.course = course;
        }

        int days() {
            return course.day - camp.settings[TODAY] + 1;
        }

        void findChance(int t) {
            ready();
            int days = days();
            long sum = 0;
            for (int set = 0; set < 1 << days; set++) {
                if (lasts(set)) {
                    sum += weight(set, days, t);
                }
            }
            reduce(sum, power(10, days));
        }

        void findMean(int t) {
            ready();
            long sum = 0;
            for (int act = 0; act < pad.acts; act++) {
                sum += course.burns[act] * (10 - t) + gusty[act] * t;
            }
            reduce(sum, 10);
        }

        private void ready() {
            for (int act = 0; act < pad.acts; act++) {
                int kind = pad.kinds[act];
                int wind = camp.windOn(course.days[act], GUST);
                gusty[act] = camp.has(kind) ? camp.toBoil(kind, wind, pad.ways[act]) : 0;
            }
        }

        /** Whether the gas is enough, if there are gusts on a set of the DAYS. */
        private boolean lasts(int set) {
            int left = camp.settings[LEFT];
            for (int act = 0; act < pad.acts; act++) {
                int place = course.days[act] - camp.settings[TODAY];
                left -= (set >> place & 1) == 1 ? gusty[act] : course.burns[act];
                if (left < 0) {
                    return false;
                }
                if (pad.kinds[act] == SHOP) {
                    left = Math.min(left + SHOP_SELLS, CAN);
                }
            }
            return true;
        }

        private static long weight(int set, int days, int t) {
            int withGust = Integer.bitCount(set);
            return power(t, withGust) * power(10 - t, days - withGust);
        }

        private static long power(long base, int times) {
            long product = 1;
            for (int i = 0; i < times; i++) {
                product *= base;
            }
            return product;
        }

        private void reduce(long over, long under) {
            long a = under;
            long b = over;
            // Each two steps halve b at least, so that 200 are far more than a long can need.
            for (int i = 0; i < 200 && b != 0; i++) {
                long rest = a % b;
                a = b;
                b = rest;
            }
            if (a != 0) {
                upper = over / a;
                lower = under / a;
            }
        }
    }

    /** A WEEK by draws, on what is LEFT now. */
    private static final class Week {
        private final Camp camp;
        int left;
        int boiled;
        int wanting;

        Week(Camp camp) {
            this.camp = camp;
        }

        void live(int seed, int days) {
            left = camp.settings[LEFT];
            boiled = 0;
            wanting = 0;
            int x = seed;
            for (int draw = 0; draw < 2 * days; draw++) {
                x = (75 * x + 74) % 65537;
                tryToBoil(x % MEALS, x / MEALS % 2 == 1 ? SNOW : 0);
            }
        }

        private void tryToBoil(int meal, int ways) {
            if (!camp.has(meal) || !camp.isHot(meal)) {
                return;
            }
            int price = camp.toBoil(meal, 0, ways);
            if (price > left) {
                wanting++;
            } else {
                left -= price;
                boiled++;
            }
        }
    }
}
