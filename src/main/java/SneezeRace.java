/** A balloon race that is steered by sneezes. The promises are told in ../shared/DOC.md. */
public final class SneezeRace {
    public static final int UNKNOWN = -1, OUTSIDE = -2, STATE = -3, FULL = -4, NO = -5, NONE = -6;
    public static final long GONE = -1000000000000000000L;

    private static final int FINE = 0;
    private static final int THINGS = 6, SETS = 64, HEIGHTS = 5, FARTHEST = 600, SIGHTS = 6;
    // Farther from any goal than a race can end.
    private static final int OUT_OF_SIGHT = 2 * FARTHEST + 1;
    private static final int SIGNS = 60, SNEEZES = 12, CHOSEN_SNEEZES = 6, MOST_PEPPER = 12;
    private static final int MINUTE = 46, SNEEZE = 33, FIRST_LETTER = 97;
    private static final int FIRST_SIGN = 33, LAST_SIGN = 126;
    private static final int MOST_WEIGHT = 20, MOST_WIND = 9, GASES = 100, LONGEST_WAIT = 20;
    private static final int RACES = 60, RACE_MINUTES = 10, LAST_SEED = 9999;

    // The numbers that can be set, by their places in a row.
    private static final int TURN = 0, GAS = 1, LEAK = 2, STEP = 3, D = 4, W = 5, NUMBERS = 6;
    private static final int[] LEAST = {0, 0, 0, 1, 0, 1};
    private static final int[] GREATEST = {40, 99, 9, 20, 9, 20};
    private static final int[] AT_FIRST = {10, 50, 1, 10, 3, 5};

    private final Setup setup;
    private final Setup firstImage;
    private final Setup secondImage;
    private final Pad pad;
    private final Balloon balloon;
    private final Balloon rival;
    private final Pepper sneezes;
    private final Chart chart;
    private final Search search;
    private final Chances chances;
    private final Falls falls;

    public SneezeRace() {
        setup = new Setup();
        firstImage = new Setup();
        secondImage = new Setup();
        pad = new Pad();
        balloon = new Balloon();
        rival = new Balloon();
        sneezes = new Pepper();
        chart = new Chart();
        search = new Search();
        chances = new Chances();
        falls = new Falls();
    }

    // ---- 1 skies, balloons, races

    public int wind(int height, int late, int v) {
        if (!within(height, 0, HEIGHTS - 1)) {
            return UNKNOWN;
        }
        if (!within(late, 0, 1) || !within(v, -MOST_WIND, MOST_WIND)) {
            return OUTSIDE;
        }
        int before = setup.windAt(height, late);
        setup.changeWind(height, late, v);
        return before + 100;
    }

    public int set(int which, int v) {
        if (!within(which, 0, NUMBERS - 1) || !within(v, cell(LEAST, which), cell(GREATEST, which))) {
            return OUTSIDE;
        }
        int before = setup.number(which);
        setup.changeNumber(which, v);
        return before;
    }

    public int load(int thing, int weight) {
        if (!isThing(thing)) {
            return UNKNOWN;
        }
        if (!within(weight, 0, MOST_WEIGHT)) {
            return OUTSIDE;
        }
        int before = setup.weight(thing);
        setup.changeWeight(thing, weight);
        return before;
    }

    public int say(int sign) {
        if (!within(sign, FIRST_SIGN, LAST_SIGN)) {
            return OUTSIDE;
        }
        if (pad.length() >= SIGNS) {
            return FULL;
        }
        pad.write(sign);
        return pad.length();
    }

    public int wipe() {
        int before = pad.length();
        pad.clear();
        return before;
    }

    public int fault() {
        return firstFault();
    }

    // ---- 2 races

    public int at(int m, int what) {
        if (firstFault() != NONE) {
            return NO;
        }
        if (!within(m, -1, pad.count(MINUTE)) || !within(what, 0, 3)) {
            return OUTSIDE;
        }
        flyBehind(m);
        switch (what) {
            case 0:
                return balloon.place() + 1000;
            case 1:
                return setup.height(balloon.gas(), balloon.aboard());
            case 2:
                return balloon.gas();
            default:
                return Integer.bitCount(balloon.aboard());
        }
    }

    public int judge(int what) {
        if (firstFault() != NONE) {
            return NO;
        }
        if (!within(what, 0, 3)) {
            return OUTSIDE;
        }
        switch (what) {
            case 0:
                return pad.fines();
            case 1:
                return pad.count(MINUTE);
            case 2:
                return pad.count(SNEEZE);
            default:
                return doubtWith(0, 0);
        }
    }

    public int pepper(int minute) {
        if (firstFault() != NONE) {
            return NO;
        }
        if (!within(minute, 0, pad.count(MINUTE))) {
            return OUTSIDE;
        }
        if (doubtWith(minute, 0) != NONE) {
            return NONE;
        }
        int more = 0;
        while (more < MOST_PEPPER && doubtWith(minute, more + 1) == NONE) {
            more++;
        }
        return more;
    }

    // ---- 3 courses

    public int nearest(int goal, int i) {
        int refusal = choiceRefusal(isPlace(goal));
        if (refusal != FINE) {
            return refusal;
        }
        chart.draw(setup, pad);
        search.begin(goal);
        seek(chart, search, 0, setup.loaded(), 0, 0);
        if (i == -1) {
            return search.off();
        }
        return within(i, 0, chart.sneezes() - 1) ? search.chosen(i) : NONE;
    }

    public int field(int from, int to) {
        int refusal = choiceRefusal(isStretch(from, to));
        if (refusal != FINE) {
            return refusal;
        }
        chart.draw(setup, pad);
        return ways(chart, 0, setup.loaded(), 0, from, to);
    }

    public int take(int goal, int what) {
        int refusal = courseRefusal(isPlace(goal) && within(what, 0, 1));
        if (refusal != FINE) {
            return refusal;
        }
        int best = 0;
        int off = offWith(goal, 0, 0);
        int loaded = setup.loaded();
        for (int set = 1; set < SETS; set++) {
            int offNow = (set & loaded) == set ? offWith(goal, set, 0) : off;
            if (offNow < off) {
                best = set;
                off = offNow;
            }
        }
        return what == 0 ? best : off;
    }

    public int stay(int goal, int what) {
        int refusal = courseRefusal(isPlace(goal) && within(what, 0, 1));
        if (refusal != FINE) {
            return refusal;
        }
        int best = 0;
        int loaded = setup.loaded();
        int off = offWith(goal, loaded, 0);
        for (int wait = 1; wait <= LONGEST_WAIT; wait++) {
            int offNow = offWith(goal, loaded, wait);
            if (offNow < off) {
                best = wait;
                off = offNow;
            }
        }
        return what == 0 ? best : off;
    }

    // ---- 4 chances, starts

    public long likely(int from, int to, int c, int part) {
        int refusal = courseRefusal(isStretch(from, to) && within(c, 0, 10) && within(part, 0, 1));
        if (refusal != FINE) {
            return GONE + refusal;
        }
        chart.draw(setup, pad);
        chances.line(setup);
        return inLowestTerms(chances.landing(chart, c, from, to), chances.all(chart), part);
    }

    public long mean(int c, int part) {
        int refusal = courseRefusal(within(c, 0, 10) && within(part, 0, 1));
        if (refusal != FINE) {
            return GONE + refusal;
        }
        chart.draw(setup, pad);
        chances.line(setup);
        long all = chances.all(chart);
        return inLowestTerms(chances.places(chart, c) + 1000 * all, all, part);
    }

    public int fell(int thing, int place) {
        if (!isThing(thing)) {
            return UNKNOWN;
        }
        if (!isPlace(place)) {
            return OUTSIDE;
        }
        if (setup.sights() >= SIGHTS) {
            return FULL;
        }
        setup.addSight(thing, place);
        return setup.sights();
    }

    public int forget() {
        int before = setup.sights();
        setup.forgetSights();
        return before;
    }

    public int starts(int what) {
        if (!within(what, 0, 2)) {
            return OUTSIDE;
        }
        if (firstFault() != NONE) {
            return NO;
        }
        int many = 0;
        int least = NONE;
        int greatest = NONE;
        for (int gas = 0; gas < GASES; gas++) {
            if (sightsHold(gas)) {
                many++;
                least = least == NONE ? gas : least;
                greatest = gas;
            }
        }
        return oneOf(what, many, least, greatest);
    }

    public int ahead(int set, int what) {
        int refusal = courseRefusal(within(set, 0, SETS - 1) && within(what, 0, 1));
        if (refusal != FINE) {
            return refusal;
        }
        int loaded = setup.loaded();
        balloon.start(setup.number(GAS), loaded, 0);
        rival.start(setup.number(GAS), loaded & set, 0);
        int first = 0;
        int second = 0;
        for (int minutes = pad.count(MINUTE); minutes > 0; minutes--) {
            balloon.fly(setup);
            rival.fly(setup);
            first += balloon.place() > rival.place() ? 1 : 0;
            second += rival.place() > balloon.place() ? 1 : 0;
        }
        return what == 0 ? first : second;
    }

    public int year(int seed, int n, int what) {
        if (!within(seed, 0, LAST_SEED) || !within(n, 1, RACES) || !within(what, 0, 2)) {
            return OUTSIDE;
        }
        int sum = 0;
        int least = FARTHEST;
        int greatest = -FARTHEST;
        int x = seed;
        for (int race = 0; race < n; race++) {
            x = flyByDraws(x);
            sum += balloon.place();
            least = Math.min(least, balloon.place());
            greatest = Math.max(greatest, balloon.place());
        }
        return oneOf(what, sum + 100000, least + 1000, greatest + 1000);
    }

    public int image(int n) {
        if (!within(n, 0, 1)) {
            return OUTSIDE;
        }
        imageOf(n).keep(setup);
        return 1;
    }

    public int restore(int n) {
        if (!within(n, 0, 1)) {
            return OUTSIDE;
        }
        if (!imageOf(n).isKept()) {
            return STATE;
        }
        setup.become(imageOf(n));
        return 1;
    }

    public int told(int what) {
        if (what == 0) {
            return pad.length();
        }
        if (within(what, 1, NUMBERS)) {
            return setup.number(what - 1);
        }
        if (what == 7) {
            return setup.sights();
        }
        if (within(what, 10, 9 + THINGS)) {
            return setup.weight(what - 10);
        }
        if (within(what, 20, 19 + HEIGHTS)) {
            return setup.windAt(what - 20, 0) + 100;
        }
        if (within(what, 30, 29 + HEIGHTS)) {
            return setup.windAt(what - 30, 1) + 100;
        }
        return OUTSIDE;
    }

    // ---- what can be refused

    private static boolean within(int v, int least, int greatest) {
        return v >= least && v <= greatest;
    }

    private static boolean isThing(int thing) {
        return within(thing, 0, THINGS - 1);
    }

    private static boolean isPlace(int place) {
        return within(place, -FARTHEST, FARTHEST);
    }

    private static boolean isStretch(int from, int to) {
        return isPlace(from) && isPlace(to) && to >= from;
    }

    private int courseRefusal(boolean inside) {
        if (!inside) {
            return OUTSIDE;
        }
        if (firstFault() != NONE) {
            return NO;
        }
        return pad.hasThrow() ? STATE : FINE;
    }

    private int choiceRefusal(boolean inside) {
        int refusal = courseRefusal(inside);
        if (refusal != FINE) {
            return refusal;
        }
        return pad.count(SNEEZE) > CHOSEN_SNEEZES ? FULL : FINE;
    }

    // ---- how a race is flown

    private static int thingOf(int sign) {
        return isThing(sign - FIRST_LETTER) ? sign - FIRST_LETTER : NONE;
    }

    private int firstFault() {
        int aboard = setup.loaded();
        int sneezed = 0;
        for (int i = 0; i < pad.length(); i++) {
            int sign = pad.sign(i);
            int thing = thingOf(sign);
            if (sign == SNEEZE) {
                sneezed++;
            }
            boolean stands = sign == MINUTE || sign == SNEEZE && sneezed <= SNEEZES
                    || thing != NONE && has(aboard, thing);
            if (!stands) {
                return i;
            }
            aboard = without(aboard, thing);
        }
        return NONE;
    }

    private static boolean has(int set, int thing) {
        return thing >= 0 && thing < THINGS && (set >> thing & 1) != 0;
    }

    private static int without(int set, int thing) {
        return isThing(thing) ? set & ~(1 << thing) : set;
    }

    private void flyBehind(int m) {
        balloon.start(setup.number(GAS), setup.loaded(), 0);
        int minutes = 0;
        for (int i = 0; i < pad.length() && minutes != m; i++) {
            if (pad.sign(i) == MINUTE) {
                balloon.fly(setup);
                minutes++;
            } else {
                balloon.lose(thingOf(pad.sign(i)));
            }
        }
    }

    private int offWith(int goal, int set, int wait) {
        balloon.start(setup.number(GAS), set, wait);
        for (int minutes = pad.count(MINUTE); minutes > 0; minutes--) {
            balloon.fly(setup);
        }
        return Math.abs(balloon.place() - goal);
    }

    private boolean sightsHold(int gas) {
        balloon.start(gas, setup.loaded(), 0);
        falls.clear();
        for (int i = 0; i < pad.length(); i++) {
            if (pad.sign(i) == MINUTE) {
                balloon.fly(setup);
            } else {
                falls.note(thingOf(pad.sign(i)), balloon.place());
                balloon.lose(thingOf(pad.sign(i)));
            }
        }
        for (int i = 0; i < setup.sights(); i++) {
            if (!falls.saw(setup.sightThing(i), setup.sightPlace(i))) {
                return false;
            }
        }
        return true;
    }

    private int flyByDraws(int seed) {
        int x = seed;
        balloon.start(setup.number(GAS), setup.loaded(), 0);
        for (int minute = 0; minute < RACE_MINUTES; minute++) {
            x = (75 * x + 74) % 65537;
            if (x % 4 == 0) {
                balloon.lose(setup.heaviest(balloon.aboard()));
            }
            balloon.fly(setup);
        }
        return x;
    }

    // ---- sneezes and throws

    private int doubtWith(int minute, int more) {
        sneezes.gather(pad, minute, more);
        return sneezes.firstDoubt(setup.number(D), setup.number(W));
    }

    // Things are tried by letters, none last, and the first of equal ends is kept.
    private static void seek(Chart chart, Search search, int sneeze, int aboard, int place, int thrown) {
        int now = place + chart.drift(sneeze, aboard);
        if (sneeze >= chart.sneezes() || sneeze >= CHOSEN_SNEEZES) {
            search.end(now, thrown);
            return;
        }
        for (int thing = 0; thing < THINGS; thing++) {
            if (has(aboard, thing)) {
                search.pick(sneeze, thing);
                seek(chart, search, sneeze + 1, without(aboard, thing), now, thrown + 1);
            }
        }
        search.pick(sneeze, NONE);
        seek(chart, search, sneeze + 1, aboard, now, thrown);
    }

    private static int ways(Chart chart, int sneeze, int aboard, int place, int from, int to) {
        int now = place + chart.drift(sneeze, aboard);
        if (sneeze >= chart.sneezes() || sneeze >= CHOSEN_SNEEZES) {
            return within(now, from, to) ? 1 : 0;
        }
        int sum = ways(chart, sneeze + 1, aboard, now, from, to);
        for (int thing = 0; thing < THINGS; thing++) {
            if (has(aboard, thing)) {
                sum += ways(chart, sneeze + 1, without(aboard, thing), now, from, to);
            }
        }
        return sum;
    }

    // ---- numbers and rows

    private static int oneOf(int what, int first, int second, int third) {
        if (what == 0) {
            return first;
        }
        return what == 1 ? second : third;
    }

    private static long inLowestTerms(long upper, long lower, int part) {
        long divisor = commonDivisor(upper, lower);
        if (divisor < 1) {
            return GONE;
        }
        return part == 0 ? upper / divisor : lower / divisor;
    }

    private static long commonDivisor(long a, long b) {
        long greater = a;
        long less = b;
        for (int i = 0; i < 200 && less != 0; i++) {
            long rest = greater % less;
            greater = less;
            less = rest;
        }
        return greater;
    }

    private static int cell(int[] row, int i) {
        return row != null && i >= 0 && i < row.length ? row[i] : 0;
    }

    private static void put(int[] row, int i, int v) {
        if (row != null && i >= 0 && i < row.length) {
            row[i] = v;
        }
    }

    private static void copy(int[] from, int[] to) {
        for (int i = 0; from != null && to != null && i < from.length && i < to.length; i++) {
            to[i] = from[i];
        }
    }

    private Setup imageOf(int n) {
        return n == 0 ? firstImage : secondImage;
    }

    /** All that an image keeps: numbers, winds, weights, sights. */
    private static final class Setup {
        private final int[] numbers;
        private final int[] winds;
        private final int[] weights;
        private final int[] sightThings;
        private final int[] sightPlaces;
        private int sights;
        private boolean kept;

        Setup() {
            numbers = new int[NUMBERS];
            winds = new int[2 * HEIGHTS];
            weights = new int[THINGS];
            sightThings = new int[SIGHTS];
            sightPlaces = new int[SIGHTS];
            for (int i = 0; i < numbers.length && i < AT_FIRST.length; i++) {
                numbers[i] = AT_FIRST[i];
            }
            for (int height = 0; height < HEIGHTS && HEIGHTS + height < winds.length; height++) {
                winds[height] = height;
                winds[HEIGHTS + height] = -height;
            }
        }

        int number(int which) {
            return cell(numbers, which);
        }

        void changeNumber(int which, int v) {
            put(numbers, which, v);
        }

        int windAt(int height, int late) {
            return cell(winds, late * HEIGHTS + height);
        }

        void changeWind(int height, int late, int v) {
            put(winds, late * HEIGHTS + height, v);
        }

        int weight(int thing) {
            return cell(weights, thing);
        }

        void changeWeight(int thing, int weight) {
            put(weights, thing, weight);
        }

        int sights() {
            return sights;
        }

        int sightThing(int i) {
            return cell(sightThings, i);
        }

        int sightPlace(int i) {
            return cell(sightPlaces, i);
        }

        void addSight(int thing, int place) {
            put(sightThings, sights, thing);
            put(sightPlaces, sights, place);
            sights++;
        }

        void forgetSights() {
            sights = 0;
        }

        int loaded() {
            int set = 0;
            for (int thing = 0; thing < THINGS; thing++) {
                set |= weight(thing) > 0 ? 1 << thing : 0;
            }
            return set;
        }

        int heaviest(int aboard) {
            int found = NONE;
            for (int thing = 0; thing < THINGS; thing++) {
                if (has(aboard, thing) && (found == NONE || weight(thing) > weight(found))) {
                    found = thing;
                }
            }
            return found;
        }

        int height(int gas, int aboard) {
            int lift = gas;
            for (int thing = 0; thing < THINGS; thing++) {
                lift -= has(aboard, thing) ? weight(thing) : 0;
            }
            int step = number(STEP);
            if (step < 1 || lift < 0) {
                return 0;
            }
            return Math.min(lift / step, HEIGHTS - 1);
        }

        int drift(int gas, int aboard, int minute) {
            return windAt(height(gas, aboard), minute >= number(TURN) ? 1 : 0);
        }

        int leaked(int gas) {
            return Math.max(gas - number(LEAK), 0);
        }

        void become(Setup other) {
            copy(other.numbers, numbers);
            copy(other.winds, winds);
            copy(other.weights, weights);
            copy(other.sightThings, sightThings);
            copy(other.sightPlaces, sightPlaces);
            sights = other.sights;
        }

        void keep(Setup other) {
            become(other);
            kept = true;
        }

        boolean isKept() {
            return kept;
        }
    }

    /** The text of a race. */
    private static final class Pad {
        private final int[] signs;
        private int length;

        Pad() {
            signs = new int[SIGNS];
        }

        int length() {
            return length;
        }

        int sign(int i) {
            return cell(signs, i);
        }

        void write(int sign) {
            put(signs, length, sign);
            length++;
        }

        void clear() {
            length = 0;
        }

        int count(int sign) {
            int many = 0;
            for (int i = 0; i < length; i++) {
                many += sign(i) == sign ? 1 : 0;
            }
            return many;
        }

        boolean hasThrow() {
            for (int i = 0; i < length; i++) {
                if (thingOf(sign(i)) != NONE) {
                    return true;
                }
            }
            return false;
        }

        int fines() {
            int many = 0;
            for (int i = 0; i < length; i++) {
                boolean excused = i > 0 && sign(i - 1) == SNEEZE;
                many += thingOf(sign(i)) != NONE && !excused ? 1 : 0;
            }
            return many;
        }
    }

    /** A balloon on its way. */
    private static final class Balloon {
        private int place;
        private int gas;
        private int aboard;
        private int minute;

        void start(int startGas, int things, int startMinute) {
            place = 0;
            gas = startGas;
            aboard = things;
            minute = startMinute;
        }

        void fly(Setup setup) {
            place += setup.drift(gas, aboard, minute);
            gas = setup.leaked(gas);
            minute++;
        }

        void lose(int thing) {
            aboard = without(aboard, thing);
        }

        int place() {
            return place;
        }

        int gas() {
            return gas;
        }

        int aboard() {
            return aboard;
        }
    }

    /** The minutes of sneezes, in their order. */
    private static final class Pepper {
        private final int[] minutes;
        private int count;

        Pepper() {
            minutes = new int[SNEEZES + MOST_PEPPER];
        }

        // The additional ones stand behind the sneezes of their minute: which of one minute is added makes no difference.
        void gather(Pad pad, int minute, int more) {
            count = 0;
            int now = 0;
            for (int i = 0; i < pad.length(); i++) {
                if (pad.sign(i) == SNEEZE) {
                    add(now, 1);
                }
                if (pad.sign(i) == MINUTE) {
                    add(now, now == minute ? more : 0);
                    now++;
                }
            }
            add(now, now == minute ? more : 0);
        }

        private void add(int minute, int many) {
            for (int i = 0; i < many; i++) {
                put(minutes, count, minute);
                count++;
            }
        }

        int firstDoubt(int d, int w) {
            for (int i = 0; i < count; i++) {
                if (near(i, w) > d) {
                    return i;
                }
            }
            return NONE;
        }

        private int near(int sneeze, int w) {
            int many = 0;
            for (int i = 0; i <= sneeze; i++) {
                many += cell(minutes, i) > cell(minutes, sneeze) - w ? 1 : 0;
            }
            return many;
        }
    }

    /** How far each set of things drifts on a course from one sneeze to the next: throws change neither gas nor minutes. */
    private static final class Chart {
        private final int[] drifts;
        private int sneezes;

        Chart() {
            drifts = new int[(SNEEZES + 1) * SETS];
        }

        int sneezes() {
            return sneezes;
        }

        int drift(int leg, int aboard) {
            return cell(drifts, leg * SETS + aboard);
        }

        void draw(Setup setup, Pad pad) {
            for (int i = 0; i < drifts.length; i++) {
                drifts[i] = 0;
            }
            sneezes = 0;
            int gas = setup.number(GAS);
            int minute = 0;
            for (int i = 0; i < pad.length(); i++) {
                if (pad.sign(i) == SNEEZE) {
                    sneezes = Math.min(sneezes + 1, SNEEZES);
                }
                if (pad.sign(i) == MINUTE) {
                    addMinute(setup, gas, minute);
                    gas = setup.leaked(gas);
                    minute++;
                }
            }
        }

        private void addMinute(Setup setup, int gas, int minute) {
            for (int aboard = 0; aboard < SETS; aboard++) {
                put(drifts, sneezes * SETS + aboard, drift(sneezes, aboard) + setup.drift(gas, aboard, minute));
            }
        }
    }

    /** What is thrown at each sneeze to come nearest to a goal. */
    private static final class Search {
        private final int[] picked;
        private final int[] best;
        private int goal;
        private int off;
        private int thrown;

        Search() {
            picked = new int[CHOSEN_SNEEZES];
            best = new int[CHOSEN_SNEEZES];
        }

        void begin(int newGoal) {
            goal = newGoal;
            off = OUT_OF_SIGHT;
            thrown = 0;
        }

        void pick(int sneeze, int thing) {
            put(picked, sneeze, thing);
        }

        void end(int place, int throwsMade) {
            int offNow = Math.abs(place - goal);
            if (offNow < off || offNow == off && throwsMade < thrown) {
                off = offNow;
                thrown = throwsMade;
                copy(picked, best);
            }
        }

        int off() {
            return off;
        }

        int chosen(int sneeze) {
            return cell(best, sneeze);
        }
    }

    /** Sneezes by chance, each of which throws the heaviest thing with c tenths. */
    private static final class Chances {
        private final int[] left;

        Chances() {
            left = new int[THINGS + 1];
        }

        // What is left aboard behind 0, 1, 2 .. throws does not depend on when they were.
        void line(Setup setup) {
            int aboard = setup.loaded();
            for (int i = 0; i < left.length; i++) {
                left[i] = aboard;
                aboard = without(aboard, setup.heaviest(aboard));
            }
        }

        long all(Chart chart) {
            return power(10, chart.sneezes());
        }

        long landing(Chart chart, int c, int from, int to) {
            long sum = 0;
            for (int sneezed = 0; sneezed < 1 << SNEEZES && sneezed < 1 << chart.sneezes(); sneezed++) {
                sum += within(placeBy(chart, sneezed), from, to) ? chance(chart, sneezed, c) : 0;
            }
            return sum;
        }

        long places(Chart chart, int c) {
            long sum = 0;
            for (int sneezed = 0; sneezed < 1 << SNEEZES && sneezed < 1 << chart.sneezes(); sneezed++) {
                sum += placeBy(chart, sneezed) * chance(chart, sneezed, c);
            }
            return sum;
        }

        private int placeBy(Chart chart, int sneezed) {
            int thrown = 0;
            int place = 0;
            for (int leg = 0; leg <= chart.sneezes(); leg++) {
                place += chart.drift(leg, cell(left, thrown));
                thrown = Math.min(thrown + (sneezed >> leg & 1), THINGS);
            }
            return place;
        }

        private long chance(Chart chart, int sneezed, int c) {
            int thrown = Integer.bitCount(sneezed);
            return power(c, thrown) * power(10 - c, chart.sneezes() - thrown);
        }

        private static long power(int base, int exponent) {
            long product = 1;
            for (int i = 0; i < exponent; i++) {
                product *= base;
            }
            return product;
        }
    }

    /** Where each thing fell in one race. */
    private static final class Falls {
        private final int[] places;
        private int fallen;

        Falls() {
            places = new int[THINGS];
        }

        void clear() {
            fallen = 0;
        }

        void note(int thing, int place) {
            if (isThing(thing)) {
                put(places, thing, place);
                fallen |= 1 << thing;
            }
        }

        boolean saw(int thing, int place) {
            return has(fallen, thing) && cell(places, thing) == place;
        }
    }
}
