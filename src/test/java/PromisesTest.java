/** Each promise on its own: ordinary inputs, the edges that the document names, wrong inputs. */
public final class PromisesTest extends Asked {
    public static void main(String[] args) {
        promise1ANewObject();
        promise2Wind();
        promise3Set();
        promise4Load();
        promise5Say();
        promise6Wipe();
        promise7Fault();
        promise8At();
        promise9Judge();
        promise10Pepper();
        promise11Nearest();
        promise11Refusals();
        promise12Field();
        promise13Take();
        promise14Stay();
        promise15Likely();
        promise16Mean();
        promise17Fell();
        promise18Forget();
        promise19Starts();
        promise20Ahead();
        promise21Year();
        promise22Image();
        promise23Restore();
        promise24Told();
        finish();
    }

    private static void promise1ANewObject() {
        about("promise 1");
        SneezeRace x = new SneezeRace();
        int[] numbers = {0, 10, 50, 1, 10, 3, 5, 0};
        for (int what = 0; what < numbers.length; what++) {
            due(numbers[what], x.told(what));
        }
        for (int thing = 0; thing < 6; thing++) {
            due(0, x.told(10 + thing));
        }
        for (int height = 0; height < 5; height++) {
            due(100 + height, x.told(20 + height));
            due(100 - height, x.told(30 + height));
        }
        due(0, x.at(0, 3));
        due(NONE, x.fault());
        due(STATE, x.restore(0));
        due(STATE, x.restore(1));
        due(-1, SneezeRace.UNKNOWN);
        due(-2, SneezeRace.OUTSIDE);
        due(-3, SneezeRace.STATE);
        due(-4, SneezeRace.FULL);
        due(-5, SneezeRace.NO);
        due(-6, SneezeRace.NONE);
        due(-1000000000000000000L, SneezeRace.GONE);
        SneezeRace other = new SneezeRace();
        x.load(0, 7);
        x.wind(2, 0, 9);
        due(0, other.told(10));
        due(102, other.told(22));
    }

    private static void promise2Wind() {
        about("promise 2");
        SneezeRace x = race("..");
        x.set(0, 1);
        due(104, x.wind(4, 0, -9));
        due(91, x.wind(4, 0, 9));
        due(96, x.wind(4, 1, 0));
        due(1009, x.at(1, 0));
        due(1009, x.at(2, 0));
        due(100, x.wind(4, 1, -5));
        due(1004, x.at(2, 0));
        due(UNKNOWN, x.wind(-1, 0, 0));
        due(UNKNOWN, x.wind(5, 2, 10));
        due(UNKNOWN, x.wind(LOW, LOW, LOW));
        due(OUTSIDE, x.wind(4, -1, 0));
        due(OUTSIDE, x.wind(4, 2, 0));
        due(OUTSIDE, x.wind(4, 0, -10));
        due(OUTSIDE, x.wind(4, 0, 10));
        due(OUTSIDE, x.wind(0, HIGH, HIGH));
        due(109, x.told(24));
        due(95, x.told(34));
    }

    private static void promise3Set() {
        about("promise 3");
        int[] first = {10, 50, 1, 10, 3, 5};
        int[] least = {0, 0, 0, 1, 0, 1};
        int[] greatest = {40, 99, 9, 20, 9, 20};
        SneezeRace x = new SneezeRace();
        for (int which = 0; which < 6; which++) {
            due(OUTSIDE, x.set(which, least[which] - 1));
            due(OUTSIDE, x.set(which, greatest[which] + 1));
            due(OUTSIDE, x.set(which, LOW));
            due(OUTSIDE, x.set(which, HIGH));
            due(first[which], x.set(which, least[which]));
            due(least[which], x.told(1 + which));
            due(least[which], x.set(which, greatest[which]));
            due(greatest[which], x.told(1 + which));
        }
        due(OUTSIDE, x.set(-1, 5));
        due(OUTSIDE, x.set(6, 5));
        due(OUTSIDE, x.set(LOW, 5));
        due(OUTSIDE, x.set(HIGH, 5));
        for (int which = 0; which < 6; which++) {
            due(greatest[which], x.told(1 + which));
        }
    }

    private static void promise4Load() {
        about("promise 4");
        SneezeRace x = new SneezeRace();
        for (int thing = 0; thing < 6; thing++) {
            due(0, x.load(thing, 20 - thing));
            due(thing + 1, x.at(-1, 3));
        }
        due(15, x.load(5, 0));
        due(5, x.at(-1, 3));
        due(0, x.load(5, 1));
        due(UNKNOWN, x.load(-1, 0));
        due(UNKNOWN, x.load(6, 21));
        due(UNKNOWN, x.load(LOW, LOW));
        due(UNKNOWN, x.load(HIGH, 1));
        due(OUTSIDE, x.load(0, -1));
        due(OUTSIDE, x.load(0, 21));
        due(OUTSIDE, x.load(5, HIGH));
        due(20, x.told(10));
        due(1, x.told(15));
    }

    private static void promise5Say() {
        about("promise 5");
        SneezeRace x = new SneezeRace();
        due(OUTSIDE, x.say(32));
        due(OUTSIDE, x.say(127));
        due(OUTSIDE, x.say(LOW));
        due(OUTSIDE, x.say(HIGH));
        due(1, x.say(33));
        due(2, x.say(126));
        for (int many = 3; many <= 60; many++) {
            due(many, x.say('.'));
        }
        due(FULL, x.say('.'));
        due(OUTSIDE, x.say(32));
        due(60, x.told(0));
        due(1, x.fault());
    }

    private static void promise6Wipe() {
        about("promise 6");
        SneezeRace x = race("..!..", 5);
        x.fell(0, 1);
        due(5, x.wipe());
        due(0, x.wipe());
        due(0, x.told(0));
        due(0, x.judge(1));
        due(5, x.told(10));
        due(1, x.told(7));
        due(1, x.say('!'));
    }

    private static void promise7Fault() {
        about("promise 7");
        due(NONE, race("").fault());
        due(NONE, race(".!.f!a.", 1, 0, 0, 0, 0, 1).fault());
        due(2, race(".!b.", 1, 0, 1).fault());
        due(3, race("a.!a", 1).fault());
        due(0, race("g", 1, 1, 1, 1, 1, 1).fault());
        due(1, race(".A", 1).fault());
        due(0, race("/").fault());
        due(0, race("-").fault());
        due(0, race("\"").fault());
        due(0, race("`", 1, 1, 1, 1, 1, 1).fault());
        due(0, race("~").fault());
        due(NONE, race("!!!!!!.!!!!!!").fault());
        due(13, race("!!!!!!.!!!!!!!").fault());
        due(12, race("!!!!!!!!!!!!!x").fault());
        SneezeRace x = race("..a", 1);
        x.load(0, 0);
        due(2, x.fault());
        x.load(0, 20);
        due(NONE, x.fault());
        due(NONE, race("abcdef", 1, 1, 1, 1, 1, 1).fault());
    }

    private static void promise8At() {
        about("promise 8");
        SneezeRace x = race("a..!b.", 10, 5);
        int[][] behind = {{1000, 3, 50, 2}, {1004, 4, 49, 1}, {1008, 4, 48, 1}, {1012, 4, 47, 0}};
        for (int m = 0; m < behind.length; m++) {
            for (int what = 0; what < 4; what++) {
                due(behind[m][what], x.at(m, what));
            }
        }
        for (int what = 0; what < 4; what++) {
            due(behind[3][what], x.at(-1, what));
        }
        write(x, "a..!b.a");
        due(NO, x.at(0, 0));
        due(NO, x.at(9, 9));
        write(x, "..a");
        due(2, x.at(2, 3));
        due(1, x.at(-1, 3));
        due(3, x.at(2, 1));
        due(4, x.at(-1, 1));
        due(OUTSIDE, x.at(3, 0));
        due(OUTSIDE, x.at(-2, 0));
        due(OUTSIDE, x.at(LOW, 0));
        due(OUTSIDE, x.at(HIGH, 0));
        due(OUTSIDE, x.at(0, -1));
        due(OUTSIDE, x.at(0, 4));
        due(OUTSIDE, x.at(0, HIGH));
        write(x, "....");
        write(x, ".");
        due(1003, x.at(-1, 0));
        heights();
        turns();
        leaks();
    }

    private static void heights() {
        SneezeRace x = race("", 20, 20, 20, 20, 20, 20);
        due(0, x.at(0, 1));
        x.set(3, 1);
        due(0, x.at(0, 1));
        x = race("", 11);
        int[][] gasAndHeight = {{0, 0}, {10, 0}, {11, 0}, {20, 0}, {21, 1}, {30, 1}, {31, 2}, {40, 2}, {41, 3}, {50, 3}, {51, 4}, {99, 4}};
        for (int[] pair : gasAndHeight) {
            x.set(1, pair[0]);
            due(pair[1], x.at(0, 1));
        }
        x.set(3, 20);
        x.set(1, 90);
        due(3, x.at(0, 1));
        x.set(1, 91);
        due(4, x.at(0, 1));
    }

    private static void turns() {
        SneezeRace x = race("............");
        x.set(2, 0);
        due(1040, x.at(10, 0));
        due(1036, x.at(11, 0));
        due(1032, x.at(-1, 0));
        x.set(0, 0);
        due(996, x.at(1, 0));
        x.set(0, 1);
        due(1004, x.at(1, 0));
        due(1000, x.at(2, 0));
        write(x, "............................................................");
        x.set(0, 40);
        x.wind(4, 0, 9);
        x.wind(4, 1, -9);
        due(1360, x.at(40, 0));
        due(1351, x.at(41, 0));
        due(1180, x.at(60, 0));
        x.wind(4, 1, 9);
        due(1540, x.at(-1, 0));
    }

    private static void leaks() {
        SneezeRace x = race("....");
        x.set(2, 9);
        x.set(1, 20);
        int[][] gasAndPlace = {{20, 1000}, {11, 1002}, {2, 1003}, {0, 1003}, {0, 1003}};
        for (int m = 0; m < gasAndPlace.length; m++) {
            due(gasAndPlace[m][0], x.at(m, 2));
            due(gasAndPlace[m][1], x.at(m, 0));
        }
    }

    private static void promise9Judge() {
        about("promise 9");
        SneezeRace x = race("a!bc.d!.e!!f", 1, 1, 1, 1, 1, 1);
        due(4, x.judge(0));
        due(2, x.judge(1));
        due(4, x.judge(2));
        due(3, x.judge(3));
        due(OUTSIDE, x.judge(-1));
        due(OUTSIDE, x.judge(4));
        due(OUTSIDE, x.judge(LOW));
        due(OUTSIDE, x.judge(HIGH));
        due(0, race("!a", 1).judge(0));
        due(1, race("!ab", 1, 1).judge(0));
        due(1, race("a", 1).judge(0));
        due(1, race("a!", 1).judge(0));
        due(2, race("!ab..!.c!d", 1, 1, 1, 1).judge(0));
        x.say('f');
        due(NO, x.judge(0));
        due(NO, x.judge(4));
        write(x, "");
        due(0, x.judge(0));
        due(NONE, x.judge(3));
        write(x, "!.!.!.!");
        due(3, x.judge(3));
        x.set(5, 4);
        due(3, x.judge(3));
        x.set(5, 3);
        due(NONE, x.judge(3));
        x.set(4, 2);
        due(2, x.judge(3));
        x.set(4, 0);
        due(0, x.judge(3));
        x.set(4, 1);
        x.set(5, 1);
        due(NONE, x.judge(3));
        write(x, "...!!");
        due(1, x.judge(3));
    }

    private static void pepperRow(SneezeRace x, int... more) {
        for (int minute = 0; minute < more.length; minute++) {
            due(more[minute], x.pepper(minute));
        }
        due(OUTSIDE, x.pepper(more.length));
    }

    private static void promise10Pepper() {
        about("promise 10");
        SneezeRace x = race("!!...!.");
        x.set(5, 3);
        pepperRow(x, 1, 1, 1, 2, 2);
        x.set(5, 4);
        pepperRow(x, 0, 0, 0, 0, 2);
        x.set(4, 2);
        pepperRow(x, NONE, NONE, NONE, NONE, NONE);
        x.set(4, 9);
        x.set(5, 1);
        pepperRow(x, 7, 9, 9, 8, 9);
        due(OUTSIDE, x.pepper(-1));
        due(OUTSIDE, x.pepper(LOW));
        due(OUTSIDE, x.pepper(HIGH));
        write(x, "!.!!..");
        x.set(4, 4);
        x.set(5, 3);
        pepperRow(x, 1, 1, 1, 2);
        // The number of all ! is no bound: twelve are there, and nine more can be.
        write(x, "!!!!!!.!!!!!!.");
        x.set(4, 9);
        x.set(5, 1);
        pepperRow(x, 3, 3, 9);
        x.say('?');
        due(NO, x.pepper(0));
        due(NO, x.pepper(99));
        write(x, "");
        x.set(4, 0);
        pepperRow(x, 0);
        x.say('!');
        pepperRow(x, NONE);
    }

    private static void promise11Nearest() {
        about("promise 11");
        SneezeRace x = steady("!.!.", 10, 10, 20);
        due(0, x.nearest(2, -1));
        due(NONE, x.nearest(2, 2));
        // 50 less 40 is height 1; c thrown at once gives 3 and 3, a or b 2 and 2.
        due(0, x.nearest(6, -1));
        due(2, x.nearest(6, 0));
        due(NONE, x.nearest(6, 1));
        // 3 by one throw: a at the second sneeze; b would be later by letters.
        due(NONE, x.nearest(3, 0));
        due(0, x.nearest(3, 1));
        // 4 by one throw: a at the first (2 and 2) stands ahead of c at the second (1 and 3).
        due(0, x.nearest(4, 0));
        due(NONE, x.nearest(4, 1));
        // 5 takes two: a then b (2 and 3), ahead of b then a.
        due(0, x.nearest(5, 0));
        due(1, x.nearest(5, 1));
        // 7: c then a (3 and 4).
        due(2, x.nearest(7, 0));
        due(0, x.nearest(7, 1));
        due(1, x.nearest(8, -1));
        due(0, x.nearest(8, 1));
        due(593, x.nearest(600, -1));
        due(602, x.nearest(-600, -1));
        due(NONE, x.nearest(-600, 0));
        due(NONE, x.nearest(6, -2));
        due(NONE, x.nearest(6, LOW));
        due(NONE, x.nearest(6, HIGH));
        write(x, "!!.");
        // 3 of one throw is c; of equal ones the place of "none" comes last: c at the first sneeze.
        due(2, x.nearest(3, 0));
        due(NONE, x.nearest(3, 1));
        due(2, x.nearest(4, 1));
        due(0, x.nearest(4, 0));
        write(x, "");
        due(600, x.nearest(600, -1));
        due(NONE, x.nearest(600, 0));
        write(x, ".a");
        write(x, ".");
        due(0, x.nearest(1, -1));
        SneezeRace none = steady(".");
        due(4, none.nearest(0, -1));
        due(4, none.nearest(0, -1));
        // 3 early, then late 3 or, without a, 4 backwards, twice.
        SneezeRace late = race(".!..", 20);
        late.set(0, 1);
        late.set(2, 0);
        due(0, late.nearest(3 - 4 - 4, -1));
        due(0, late.nearest(3 - 4 - 4, 0));
        due(0, late.nearest(3 - 3 - 3, -1));
        due(NONE, late.nearest(3 - 3 - 3, 0));
        due(1, late.field(-5, -5));
        due(2, late.field(-5, -3));
        due(0, leaking().nearest(5, -1));
        due(0, leaking().nearest(5, 0));
        due(0, leaking().nearest(4, 1));
    }

    /** Heights 2 and 1 with a, 3 and 2 without it: places 3, 4 (thrown at the second sneeze), 5 (at the first). */
    private static SneezeRace leaking() {
        SneezeRace x = race("!.!.", 10);
        x.set(1, 30);
        x.set(2, 9);
        return x;
    }

    private static void promise11Refusals() {
        SneezeRace x = race("!!!!!!.", 1, 2, 3, 4, 5, 6);
        x.set(1, 0);
        due(3, x.nearest(3, -1));
        x.say('!');
        due(FULL, x.nearest(3, -1));
        due(FULL, x.nearest(3, 99));
        due(OUTSIDE, x.nearest(601, -1));
        due(OUTSIDE, x.nearest(-601, -1));
        due(OUTSIDE, x.nearest(LOW, LOW));
        x.say('a');
        due(STATE, x.nearest(3, -1));
        x.say('a');
        due(NO, x.nearest(3, -1));
        due(OUTSIDE, x.nearest(HIGH, -1));
    }

    private static void promise12Field() {
        about("promise 12");
        SneezeRace x = steady("!.!.", 10, 10, 20);
        for (int place = 0; place < 9; place++) {
            due(waysByHand(place), x.field(place, place));
        }
        due(13, x.field(-600, 600));
        due(waysByHand(3) + waysByHand(4), x.field(3, 4));
        due(0, x.field(8, 600));
        due(3, leaking().field(3, 5));
        due(1, leaking().field(5, 5));
        due(OUTSIDE, x.field(1, 0));
        due(OUTSIDE, x.field(-601, 0));
        due(OUTSIDE, x.field(0, 601));
        due(OUTSIDE, x.field(LOW, HIGH));
        write(x, "!!!!!!");
        x.load(3, 1);
        x.load(4, 1);
        x.load(5, 1);
        // All ways to give six sneezes six things: the sum of C(6,k) C(6,k) k!.
        due(13327, x.field(0, 0));
        x.say('!');
        due(FULL, x.field(0, 0));
        due(OUTSIDE, x.field(1, 0));
        x.say('a');
        due(STATE, x.field(0, 0));
        x.say('a');
        due(NO, x.field(0, 0));
        due(OUTSIDE, x.field(0, -1));
    }

    /** Two minutes, things of 1, 1 and 2 heights, height 1 at first; a throw ahead of each minute or none. */
    private static int waysByHand(int place) {
        int[] lift = {1, 1, 2, 0};
        int many = 0;
        for (int first = 0; first < 4; first++) {
            for (int second = 0; second < 4; second++) {
                boolean can = first == 3 || first != second;
                many += can && 1 + lift[first] + Math.min(4, 1 + lift[first] + lift[second]) == place ? 1 : 0;
            }
        }
        return many;
    }

    private static void promise13Take() {
        about("promise 13");
        SneezeRace x = steady(".", 0, 10, 10, 20);
        // 50: height 4 with none or one of 10, 3 with b and c or d.
        due(0, x.take(4, 0));
        due(0, x.take(4, 1));
        due(6, x.take(3, 0));
        due(0, x.take(3, 1));
        x.set(1, 40);
        // 40: height 4 with none, 3 with b or c, 2 with b and c or d, 1 with b, d or c, d, 0 with all.
        due(0, x.take(4, 0));
        due(2, x.take(3, 0));
        due(6, x.take(2, 0));
        due(10, x.take(1, 0));
        due(14, x.take(0, 0));
        due(0, x.take(0, 1));
        SneezeRace one = race("..", 20);
        one.set(0, 1);
        one.wind(3, 0, 9);
        one.wind(3, 1, 8);
        due(0, one.take(0, 0));
        due(0, one.take(0, 1));
        one.set(2, 0);
        due(1, one.take(17, 0));
        due(0, one.take(17, 1));
        due(14, x.take(-600, 0));
        due(600, x.take(-600, 1));
        due(596, x.take(600, 1));
        due(OUTSIDE, x.take(601, 0));
        due(OUTSIDE, x.take(-601, 0));
        due(OUTSIDE, x.take(0, -1));
        due(OUTSIDE, x.take(0, 2));
        write(x, "!!!!!!!!.");
        due(6, x.take(2, 0));
        x.say('b');
        due(STATE, x.take(2, 0));
        x.say('b');
        due(NO, x.take(2, 0));
        due(OUTSIDE, x.take(2, 2));
    }

    private static void promise14Stay() {
        about("promise 14");
        SneezeRace x = race("..");
        x.set(0, 20);
        due(0, x.stay(8, 0));
        due(0, x.stay(8, 1));
        due(19, x.stay(0, 0));
        due(20, x.stay(-8, 0));
        due(0, x.stay(-8, 1));
        due(592, x.stay(-600, 1));
        due(4, x.stay(4, 1));
        due(0, x.stay(4, 0));
        x.set(0, 21);
        due(20, x.stay(-8, 0));
        due(8, x.stay(-8, 1));
        x.set(0, 22);
        due(0, x.stay(-8, 0));
        due(16, x.stay(-8, 1));
        x.set(0, 1);
        due(0, x.stay(0, 0));
        due(0, x.stay(0, 1));
        due(1, x.stay(-8, 0));
        due(0, x.stay(-8, 1));
        x.set(0, 5);
        x.set(1, 11);
        // Nothing leaks on the ground: height 1 in both minutes.
        due(5, x.stay(-2, 0));
        due(0, x.stay(-2, 1));
        x.load(0, 10);
        due(0, x.stay(0, 0));
        due(2, x.stay(-2, 1));
        due(OUTSIDE, x.stay(601, 0));
        due(OUTSIDE, x.stay(-601, 0));
        due(OUTSIDE, x.stay(0, -1));
        due(OUTSIDE, x.stay(0, 2));
        write(x, "!!!!!!!a");
        due(STATE, x.stay(0, 0));
        x.say('+');
        due(NO, x.stay(0, 0));
        due(OUTSIDE, x.stay(0, HIGH));
    }

    private static void fraction(long upper, long lower, SneezeRace x, int from, int to, int c) {
        due(upper, x.likely(from, to, c, 0));
        due(lower, x.likely(from, to, c, 1));
    }

    private static void promise15Likely() {
        about("promise 15");
        // Height 1 at first; the heaviest is b (the first of 20), then c, then a.
        SneezeRace x = steady("!.!.", 1, 20, 20);
        x.set(1, 51);
        // None: 1, 1; at the first: 3, 3; at both: 3, 4; at the second: 1, 3.
        fraction(49, 100, x, 2, 2, 3);
        fraction(21, 100, x, 6, 6, 3);
        fraction(9, 100, x, 7, 7, 3);
        fraction(21, 100, x, 4, 4, 3);
        fraction(0, 1, x, 3, 3, 3);
        fraction(1, 1, x, 2, 7, 3);
        fraction(3, 10, x, 6, 7, 3);
        fraction(1, 4, x, 4, 4, 5);
        fraction(1, 1, x, 2, 2, 0);
        fraction(0, 1, x, 2, 2, 10);
        fraction(1, 1, x, 7, 7, 10);
        fraction(1, 1, x, -600, 600, 7);
        x.wipe();
        fraction(1, 1, x, 0, 0, 4);
        fraction(1, 4, leaking(), 4, 4, 5);
        fraction(1, 2, leaking(), 5, 5, 5);
        // Neither the first nor the last is the heaviest.
        SneezeRace middle = steady("!.", 5, 20, 10);
        fraction(2, 5, middle, 3, 3, 4);
        fraction(3, 5, middle, 1, 1, 4);
        // All six go one by one: five are thrown ahead of the first minute, the last one ahead of the second.
        SneezeRace six = steady("!!!!!.!.", 10, 10, 10, 10, 10, 10);
        six.set(1, 10);
        fraction(1, 1, six, 1, 1, 10);
        six.set(1, 20);
        fraction(1, 1, six, 3, 3, 10);
        write(x, "!!!!!!!!!!!!.");
        fraction(1, 1, x, -600, 600, 7);
        x.load(0, 0);
        x.load(2, 0);
        // Only b: height 3 unless no sneeze of twelve throws it.
        fraction(1, 1000000000000L, x, 3, 3, 9);
        fraction(999999999999L, 1000000000000L, x, 4, 4, 9);
        due(GONE + OUTSIDE, x.likely(-601, 0, 1, 0));
        due(GONE + OUTSIDE, x.likely(0, 601, 1, 0));
        due(GONE + OUTSIDE, x.likely(1, 0, 1, 0));
        due(GONE + OUTSIDE, x.likely(0, 0, -1, 0));
        due(GONE + OUTSIDE, x.likely(0, 0, 11, 0));
        due(GONE + OUTSIDE, x.likely(0, 0, 1, -1));
        due(GONE + OUTSIDE, x.likely(0, 0, 1, 2));
        due(GONE + OUTSIDE, x.likely(LOW, HIGH, LOW, HIGH));
        x.say('b');
        due(GONE + STATE, x.likely(0, 0, 1, 0));
        x.say('b');
        due(GONE + NO, x.likely(0, 0, 1, 0));
        due(GONE + OUTSIDE, x.likely(0, 0, 1, 2));
    }

    private static void promise16Mean() {
        about("promise 16");
        SneezeRace x = steady("!.!.", 1, 20, 20);
        x.set(1, 51);
        // 0.49 of 2, 0.21 of 6, 0.09 of 7, 0.21 of 4.
        due(100371, x.mean(3, 0));
        due(100, x.mean(3, 1));
        due(1002, x.mean(0, 0));
        due(1, x.mean(0, 1));
        due(1007, x.mean(10, 0));
        due(1, x.mean(10, 1));
        for (int height = 0; height < 5; height++) {
            x.wind(height, 0, -height);
        }
        due(99629, x.mean(3, 0));
        // A quarter of 3 and of 4, a half of 5.
        due(4017, leaking().mean(5, 0));
        due(4, leaking().mean(5, 1));
        write(x, "");
        due(1000, x.mean(5, 0));
        due(1, x.mean(5, 1));
        due(GONE + OUTSIDE, x.mean(-1, 0));
        due(GONE + OUTSIDE, x.mean(11, 0));
        due(GONE + OUTSIDE, x.mean(0, -1));
        due(GONE + OUTSIDE, x.mean(0, 2));
        due(GONE + OUTSIDE, x.mean(LOW, HIGH));
        write(x, "a");
        due(GONE + STATE, x.mean(0, 0));
        write(x, "aa");
        due(GONE + NO, x.mean(0, 0));
        due(GONE + OUTSIDE, x.mean(0, 2));
        x = steady("!!!!!!!!!!!!.", 20);
        // Height 3 with a, 4 without: 1004 less 1 of 10 to the 12.
        due(1003999999999999L, x.mean(9, 0));
        due(1000000000000L, x.mean(9, 1));
    }

    private static void promise17Fell() {
        about("promise 17");
        SneezeRace x = new SneezeRace();
        due(UNKNOWN, x.fell(-1, 0));
        due(UNKNOWN, x.fell(6, 601));
        due(UNKNOWN, x.fell(LOW, LOW));
        due(OUTSIDE, x.fell(0, 601));
        due(OUTSIDE, x.fell(5, -601));
        due(OUTSIDE, x.fell(0, HIGH));
        due(1, x.fell(0, 600));
        due(2, x.fell(5, -600));
        due(3, x.fell(5, -600));
        due(4, x.fell(5, 1));
        due(5, x.fell(3, 0));
        due(6, x.fell(3, 0));
        due(FULL, x.fell(3, 0));
        due(OUTSIDE, x.fell(3, 601));
        due(UNKNOWN, x.fell(6, 0));
        due(6, x.told(7));
    }

    private static void promise18Forget() {
        about("promise 18");
        SneezeRace x = race(".a", 5);
        due(0, x.forget());
        x.fell(0, 500);
        x.fell(1, 0);
        due(0, x.starts(0));
        due(2, x.forget());
        due(0, x.told(7));
        due(100, x.starts(0));
        due(0, x.forget());
        due(1, x.fell(0, 4));
        due(55, x.starts(0));
    }

    private static void promise19Starts() {
        about("promise 19");
        SneezeRace x = race(".a.!b.", 10, 10);
        due(100, x.starts(0));
        due(0, x.starts(1));
        due(99, x.starts(2));
        x.fell(0, 2);
        // Height 2 in the first minute: 40 to 49 with a and b aboard.
        due(10, x.starts(0));
        due(40, x.starts(1));
        due(49, x.starts(2));
        // Then, less the leak and a, height 2 for 40 and 3 for 41 to 49.
        x.fell(1, 5);
        due(9, x.starts(0));
        due(41, x.starts(1));
        due(49, x.starts(2));
        x.set(1, 0);
        due(9, x.starts(0));
        x.fell(1, 4);
        due(0, x.starts(0));
        due(NONE, x.starts(1));
        due(NONE, x.starts(2));
        x.forget();
        x.fell(2, 0);
        due(0, x.starts(0));
        x.forget();
        x.fell(0, 0);
        due(30, x.starts(0));
        due(0, x.starts(1));
        due(29, x.starts(2));
        due(OUTSIDE, x.starts(-1));
        due(OUTSIDE, x.starts(3));
        due(OUTSIDE, x.starts(LOW));
        x.say('b');
        due(NO, x.starts(0));
        due(OUTSIDE, x.starts(3));
        write(x, "...");
        due(0, x.starts(0));
        x.forget();
        due(100, x.starts(0));
        write(x, ".a");
        x.set(0, 1);
        x.fell(0, 1);
        due(10, x.starts(0));
        due(30, x.starts(1));
        write(x, ".a");
        write(x, ".");
        due(0, x.starts(0));
        x.forget();
        x.fell(0, 0);
        due(0, x.starts(0));
        write(x, "");
        due(NONE, x.starts(1));
        SneezeRace kept = race(".", 5);
        kept.fell(0, 0);
        due(0, kept.starts(0));
    }

    private static void promise20Ahead() {
        about("promise 20");
        SneezeRace x = race("...........!.", 10, 10);
        x.set(2, 0);
        // Early 3 a minute with both and 4 without b; late the same backwards: equal places come at minute 20.
        due(0, x.ahead(1, 0));
        due(12, x.ahead(1, 1));
        due(0, x.ahead(3, 0));
        due(0, x.ahead(3, 1));
        due(0, x.ahead(63, 1));
        due(12, x.ahead(60, 1));
        x.set(0, 3);
        due(3 + 2, x.ahead(0, 1));
        due(6, x.ahead(0, 0));
        due(OUTSIDE, x.ahead(-1, 0));
        due(OUTSIDE, x.ahead(64, 0));
        due(OUTSIDE, x.ahead(0, -1));
        due(OUTSIDE, x.ahead(0, 2));
        due(OUTSIDE, x.ahead(HIGH, LOW));
        x.say('a');
        due(STATE, x.ahead(0, 0));
        x.say('a');
        due(NO, x.ahead(0, 0));
        due(OUTSIDE, x.ahead(64, 0));
    }

    private static void promise21Year() {
        about("promise 21");
        SneezeRace x = new SneezeRace();
        x.set(2, 0);
        due(100040, x.year(0, 1, 0));
        due(1040, x.year(0, 1, 1));
        due(1040, x.year(0, 1, 2));
        due(102400, x.year(9999, 60, 0));
        x.set(0, 5);
        due(100000, x.year(0, 7, 0));
        x.set(0, 10);
        x.load(0, 10);
        x.load(1, 20);
        x.load(2, 20);
        for (int seed = 0; seed < 40; seed++) {
            int[] races = yearByHand(seed * 250, 5);
            due(races[0] + 100000, x.year(seed * 250, 5, 0));
            due(races[1] + 1000, x.year(seed * 250, 5, 1));
            due(races[2] + 1000, x.year(seed * 250, 5, 2));
        }
        x.load(0, 0);
        x.load(3, 10);
        due(yearByHand(7, 60)[0] + 100000, x.year(7, 60, 0));
        due(OUTSIDE, x.year(-1, 1, 0));
        due(OUTSIDE, x.year(10000, 1, 0));
        due(OUTSIDE, x.year(0, 0, 0));
        due(OUTSIDE, x.year(0, 61, 0));
        due(OUTSIDE, x.year(0, 1, -1));
        due(OUTSIDE, x.year(0, 1, 3));
        due(OUTSIDE, x.year(LOW, HIGH, LOW));
        write(x, "zz");
        due(yearByHand(3, 60)[0] + 100000, x.year(3, 60, 0));
        due(yearByHand(9999, 60)[2] + 1000, x.year(9999, 60, 2));
    }

    /** Things of 1, 2 and 2 heights, height 0 at first, so that throws lift one to 2, then 4, then 4. */
    private static int[] yearByHand(int seed, int races) {
        int[] height = {0, 2, 4, 4};
        int x = seed;
        int[] told = {0, 1000, -1000};
        for (int race = 0; race < races; race++) {
            int thrown = 0;
            int place = 0;
            for (int minute = 0; minute < 10; minute++) {
                x = (75 * x + 74) % 65537;
                thrown = x % 4 == 0 ? Math.min(3, thrown + 1) : thrown;
                place += height[thrown];
            }
            told[0] += place;
            told[1] = Math.min(told[1], place);
            told[2] = Math.max(told[2], place);
        }
        return told;
    }

    private static void promise22Image() {
        about("promise 22");
        SneezeRace x = race("..", 3);
        due(1, x.image(0));
        x.load(0, 4);
        due(1, x.image(1));
        x.load(0, 5);
        due(1, x.restore(0));
        due(3, x.told(10));
        due(1, x.restore(1));
        due(4, x.told(10));
        due(1, x.image(0));
        due(1, x.restore(0));
        due(4, x.told(10));
        due(OUTSIDE, x.image(-1));
        due(OUTSIDE, x.image(2));
        due(OUTSIDE, x.image(LOW));
        due(2, x.told(0));
    }

    private static void promise23Restore() {
        about("promise 23");
        SneezeRace x = race("..", 3, 0, 7);
        due(STATE, x.restore(0));
        due(STATE, x.restore(1));
        due(OUTSIDE, x.restore(2));
        due(OUTSIDE, x.restore(-1));
        due(OUTSIDE, x.restore(HIGH));
        x.fell(2, 5);
        x.fell(1, 4);
        x.image(1);
        due(STATE, x.restore(0));
        int[] kept = new int[35];
        for (int what = 1; what < 35; what++) {
            kept[what] = x.told(what);
        }
        for (int i = 0; i < 6; i++) {
            x.set(i, 7);
            x.load(i, 9);
        }
        for (int i = 0; i < 10; i++) {
            x.wind(i % 5, i / 5, -7);
        }
        x.forget();
        x.fell(0, 0);
        x.fell(0, 0);
        x.fell(0, 0);
        x.say('c');
        due(1, x.restore(1));
        due(3, x.told(0));
        for (int what = 1; what < 35; what++) {
            due(kept[what], x.told(what));
        }
        due(0, x.starts(0));
        write(x, "b.c");
        x.load(1, 1);
        x.set(3, 1);
        x.wind(4, 0, 1);
        x.forget();
        x.fell(2, 1);
        // A place a minute at height 1 (GAS 11) and 4 (14 and more), 2 at height 2 (12).
        due(87, x.starts(0));
        x.image(0);
        x.forget();
        x.fell(2, 2);
        due(1, x.starts(0));
        x.restore(0);
        due(87, x.starts(0));
        due(1, x.restore(1));
        due(0, x.told(11));
        due(1, x.restore(0));
        due(1, x.told(11));
    }

    private static void promise24Told() {
        about("promise 24");
        SneezeRace x = race("..!", 1, 2, 3, 4, 5, 6);
        x.fell(0, 0);
        due(3, x.told(0));
        due(1, x.told(7));
        for (int i = 0; i < 6; i++) {
            x.set(i, i + 1);
            due(i + 1, x.told(i + 1));
            due(i + 1, x.told(10 + i));
        }
        for (int i = 0; i < 5; i++) {
            x.wind(i, 0, -9 + i);
            x.wind(i, 1, 9 - i);
            due(91 + i, x.told(20 + i));
            due(109 - i, x.told(30 + i));
        }
        int[] outside = {LOW, -1, 8, 9, 16, 19, 25, 29, 35, 40, HIGH};
        for (int what : outside) {
            due(OUTSIDE, x.told(what));
        }
    }
}
