/** The boundaries of courses: section 3 of the terms, promises 11 to 14, a test for each sentence. */
public final class CoursesBoundariesTest extends Asked {
    public static void main(String[] args) {
        goalsAreMinus600To600();
        nearestThrowsAreFromZeroOn();
        nearestRefusals();
        nearestOnSixSneezesAtMost();
        nearestWithoutSneezes();
        nearestWithNothingAboard();
        nearestThrowsAThingOnce();
        nearestTakesFewestThrows();
        nearestTakesFirstLetters();
        nearestPutsNoneLast();
        nearestOfTwoSides();
        fieldsAreMinus600To600();
        fieldToIsNotBelowFrom();
        fieldTakesTheEndsToo();
        fieldRefusals();
        fieldOnSixSneezesAtMost();
        fieldWithNothingToChoose();
        fieldThrowsOneThingOrNone();
        takeRefusals();
        takeOfThingsThatHaveAWeight();
        takeTheLeastAsBits();
        takeAllOrNothing();
        stayRefusals();
        stayUpTo20Minutes();
        stayTheLeast();
        stayOnTheGround();
        moreThanSixSneezesWhereNothingIsChosen();
        finish();
    }

    private static void goalsAreMinus600To600() {
        about("a GOAL (-600 to 600)");
        SneezeRace x = race(times(60, "."));
        for (int late = 0; late < 2; late++) {
            for (int height = 0; height < 5; height++) {
                x.wind(height, late, -9);
            }
        }
        due(1140, x.nearest(600, -1));
        due(1140, x.take(600, 1));
        due(1140, x.stay(600, 1));
        due(60, x.nearest(-600, -1));
        due(60, x.take(-600, 1));
        due(60, x.stay(-600, 1));
        int[] others = {-601, 601, LOW, LOW + 540, HIGH};
        for (int goal : others) {
            due(OUTSIDE, x.nearest(goal, -1));
            due(OUTSIDE, x.take(goal, 0));
            due(OUTSIDE, x.take(goal, 1));
            due(OUTSIDE, x.stay(goal, 0));
            due(OUTSIDE, x.stay(goal, 1));
        }
    }

    private static void nearestThrowsAreFromZeroOn() {
        about("how far (i = -1), what is thrown at the i-th ! (THING); NONE (no such !, i below -1, too)");
        // Height 1 with both, 2 without a, 3 without b, 4 without both.
        SneezeRace x = steady("!.!.!.", 10, 20);
        x.set(1, 40);
        due(0, x.nearest(3 + 4 + 4, -1));
        due(1, x.nearest(3 + 4 + 4, 0));
        due(0, x.nearest(3 + 4 + 4, 1));
        due(NONE, x.nearest(3 + 4 + 4, 2));
        due(NONE, x.nearest(3 + 4 + 4, 3));
        due(NONE, x.nearest(3 + 4 + 4, -2));
        due(NONE, x.nearest(1 + 1 + 2, 0));
        due(NONE, x.nearest(1 + 1 + 2, 1));
        due(0, x.nearest(1 + 1 + 2, 2));
        due(NONE, x.nearest(1 + 1 + 2, 3));
        // a at the second sneeze (2 and 2) as well as b at the third.
        due(NONE, x.nearest(1 + 1 + 3, 0));
        due(0, x.nearest(1 + 1 + 3, 1));
        due(NONE, x.nearest(1 + 1 + 3, 2));
        unchanged(0, Asked::anyCourse, y -> y.nearest(12, -1));
        int[] none = {-2, 0, 1, 2, 3, 6, LOW, HIGH};
        for (int i : none) {
            unchanged(NONE, Asked::anyCourse, y -> y.nearest(12, i));
        }
    }

    private static void nearestRefusals() {
        about("OUTSIDE: the GOAL; NO: there is a FAULT; STATE: there is a throw; FULL: more than 6 !");
        int[] all = {-1, 0, 7, -2, LOW, HIGH};
        for (int i : all) {
            courseRefusals(0, x -> x.nearest(0, i), x -> x.nearest(-601, i), x -> x.nearest(601, i));
            fullBehindTheOthers(x -> x.nearest(0, i));
        }
        courseRefusals(0, x -> x.nearest(-600, -1), x -> x.nearest(LOW, -1), x -> x.nearest(HIGH, -1));
    }

    private static void fullBehindTheOthers(Call call) {
        unchanged(FULL, Asked::sevenSneezes, call);
        unchanged(STATE, x -> {
            sevenSneezes(x);
            x.say('a');
        }, call);
        unchanged(NO, x -> {
            sevenSneezes(x);
            x.say('c');
        }, call);
    }

    private static void nearestOnSixSneezesAtMost() {
        about("FULL: more than 6 !");
        // Of GAS 40 and six things of 1 all must go for height 4.
        SneezeRace x = steady("!!!!!!.", 1, 1, 1, 1, 1, 1);
        x.set(1, 40);
        due(0, x.nearest(4, -1));
        for (int i = 0; i < 6; i++) {
            due(i, x.nearest(4, i));
        }
        due(NONE, x.nearest(4, 6));
        x.say('!');
        due(FULL, x.nearest(4, -1));
        due(FULL, x.nearest(4, 6));
        write(x, times(12, "!"));
        due(FULL, x.nearest(4, -1));
        x.say('!');
        due(NO, x.nearest(4, -1));
        write(x, "!!!!!.");
        due(1, x.nearest(4, -1));
        due(NONE, x.nearest(4, 0));
    }

    private static void nearestWithoutSneezes() {
        about("how far from it one is behind all, at least (no !)");
        SneezeRace x = race("", 5);
        due(600, x.nearest(-600, -1));
        due(600, x.nearest(600, -1));
        due(0, x.nearest(0, -1));
        due(NONE, x.nearest(0, 0));
        write(x, "..");
        due(2, x.nearest(10, -1));
        due(2, x.nearest(6, -1));
        due(NONE, x.nearest(10, 0));
    }

    private static void nearestWithNothingAboard() {
        about("At each ! one THING that is aboard, or none, may be thrown. (nothing aboard)");
        SneezeRace x = race("!!!!!!.");
        due(4, x.nearest(0, -1));
        for (int i = 0; i < 7; i++) {
            due(NONE, x.nearest(0, i));
        }
        x.load(4, 20);
        due(3, x.nearest(0, -1));
        due(0, x.nearest(4, -1));
        due(4, x.nearest(4, 0));
    }

    private static void nearestThrowsAThingOnce() {
        about("one THING that is aboard");
        // Height 1 with a, 2 without it: at each of two sneezes it could go but once.
        SneezeRace x = steady("!.!.", 10);
        x.set(1, 20);
        due(0, x.nearest(4, 0));
        due(NONE, x.nearest(4, 1));
        due(0, x.nearest(4, -1));
        due(1, x.nearest(5, -1));
        due(NONE, x.nearest(3, 0));
        due(0, x.nearest(3, 1));
    }

    private static void nearestTakesFewestThrows() {
        about("of several by the fewest throws");
        SneezeRace x = steady("!!.", 10, 10, 20);
        x.set(1, 50);
        // Height 1; c alone makes 3 as a and b do, which are ahead by letters.
        due(2, x.nearest(3, 0));
        due(NONE, x.nearest(3, 1));
        write(x, ".!!!");
        due(0, x.nearest(1, -1));
        for (int i = 0; i < 3; i++) {
            due(NONE, x.nearest(1, i));
        }
    }

    private static void nearestTakesFirstLetters() {
        about("then the first by letters");
        SneezeRace x = steady("!.", 0, 10, 10, 0, 10, 10);
        due(1, x.nearest(2, 0));
        x.load(1, 9);
        x.set(1, 49);
        due(2, x.nearest(2, 0));
        SneezeRace two = steady("!!.", 10, 10, 10);
        two.set(1, 40);
        due(0, two.nearest(3, 0));
        due(1, two.nearest(3, 1));
        // The second letter counts where the first is the same: b ahead of c.
        SneezeRace three = steady("!.!.", 20, 10, 10);
        three.set(1, 40);
        due(0, three.nearest(2 + 3, 0));
        due(1, three.nearest(2 + 3, 1));
    }

    private static void nearestPutsNoneLast() {
        about("none last");
        SneezeRace x = steady("!!!.", 10);
        x.set(1, 20);
        due(0, x.nearest(2, 0));
        due(NONE, x.nearest(2, 1));
        due(NONE, x.nearest(2, 2));
        // 4 by f at the first sneeze (2 and 2) as well as by none there and a at the second (1 and 3).
        SneezeRace last = steady("!.!.", 20, 0, 0, 0, 0, 10);
        last.set(1, 40);
        due(5, last.nearest(4, 0));
        due(NONE, last.nearest(4, 1));
    }

    private static void nearestOfTwoSides() {
        about("how far from it one is behind all, at least");
        // 1 with a, 3 without it: 2 lies between.
        SneezeRace x = steady("!.", 20);
        x.set(1, 30);
        due(1, x.nearest(2, -1));
        due(NONE, x.nearest(2, 0));
        due(0, x.nearest(3, 0));
        due(NONE, x.nearest(1, 0));
        due(597, x.nearest(600, -1));
        due(0, x.nearest(600, 0));
        due(601, x.nearest(-600, -1));
        due(NONE, x.nearest(-600, 0));
    }

    private static void fieldsAreMinus600To600() {
        about("OUTSIDE: -600 to 600");
        SneezeRace x = race("..");
        due(1, x.field(-600, 600));
        due(0, x.field(-600, -600));
        due(0, x.field(600, 600));
        int[] others = {-601, 601, LOW, HIGH};
        for (int place : others) {
            due(OUTSIDE, x.field(place, 600));
            due(OUTSIDE, x.field(-600, place));
            due(OUTSIDE, x.field(place, place));
        }
        unchanged(21, Asked::anyCourse, y -> y.field(-600, 600));
    }

    private static void fieldToIsNotBelowFrom() {
        about("to not below from");
        SneezeRace x = race("..");
        due(1, x.field(8, 8));
        due(OUTSIDE, x.field(8, 7));
        due(OUTSIDE, x.field(9, 8));
        due(OUTSIDE, x.field(600, -600));
        due(0, x.field(-1, 0));
        due(OUTSIDE, x.field(0, -1));
        due(0, x.field(-1, -1));
    }

    private static void fieldTakesTheEndsToo() {
        about("at from to to (places), the ends too");
        // 1 with both, 2 without a, 3 without b.
        SneezeRace x = steady("!.", 10, 20);
        x.set(1, 40);
        due(3, x.field(1, 3));
        due(2, x.field(1, 2));
        due(2, x.field(2, 3));
        due(1, x.field(0, 1));
        due(1, x.field(3, 4));
        due(1, x.field(2, 2));
        due(0, x.field(-600, 0));
        due(0, x.field(4, 600));
    }

    private static void fieldRefusals() {
        about("OUTSIDE; NO, STATE, FULL, likewise.");
        courseRefusals(0, x -> x.field(0, 0), x -> x.field(-601, 0), x -> x.field(0, 601), x -> x.field(1, 0), x -> x.field(LOW, HIGH));
        fullBehindTheOthers(x -> x.field(-600, 600));
    }

    private static void fieldOnSixSneezesAtMost() {
        about("FULL: more than 6 !");
        SneezeRace x = race("!!!!!!", 1, 1, 1, 1, 1, 1);
        // The sum over k of C(6,k) C(6,k) k!.
        due(1 + 36 + 450 + 2400 + 5400 + 4320 + 720, x.field(0, 0));
        x.say('!');
        due(FULL, x.field(0, 0));
        write(x, times(12, "!"));
        due(FULL, x.field(0, 0));
        x.say('!');
        due(NO, x.field(0, 0));
    }

    private static void fieldWithNothingToChoose() {
        about("in how many ways to throw (no !, nothing aboard)");
        due(1, race("").field(0, 0));
        due(0, race("").field(1, 1));
        due(1, race("", 1, 1).field(0, 0));
        due(1, race("!!!!!!").field(0, 0));
    }

    private static void fieldThrowsOneThingOrNone() {
        about("one THING that is aboard, or none, may be thrown");
        due(7, race("!", 1, 1, 1, 1, 1, 1).field(0, 0));
        due(7, race("!!!!!!", 0, 0, 1).field(0, 0));
        due(3, race("!!", 1).field(0, 0));
        due(7, race("!!", 1, 0, 0, 0, 0, 1).field(0, 0));
    }

    private static void takeRefusals() {
        about("the set (what = 0), how far (1). OUTSIDE; NO, STATE, likewise.");
        for (int i = 0; i < 2; i++) {
            int what = i;
            courseRefusals(0, x -> x.take(0, what), x -> x.take(-601, what), x -> x.take(601, what));
        }
        courseRefusals(0, x -> x.take(-600, 0), x -> x.take(0, -1), x -> x.take(0, 2), x -> x.take(LOW, LOW), x -> x.take(HIGH, HIGH));
        unchanged(43, Asked::anyCourse, x -> x.take(12, 0));
        unchanged(0, Asked::anyCourse, x -> x.take(12, 1));
        unchanged(11, Asked::anyCourse, x -> x.take(600, 0));
        unchanged(587, Asked::anyCourse, x -> x.take(600, 1));
        unchanged(0, Asked::anyCourse, x -> x.take(-600, 0));
        unchanged(604, Asked::anyCourse, x -> x.take(-600, 1));
    }

    private static void takeOfThingsThatHaveAWeight() {
        about("of those that have a weight");
        SneezeRace x = steady(".", 0, 0, 10, 0, 0, 10);
        x.set(1, 30);
        due(0, x.take(3, 0));
        due(4, x.take(2, 0));
        due(4 + 32, x.take(1, 0));
        x.load(2, 0);
        due(32, x.take(2, 0));
        due(32, x.take(1, 0));
        due(1, x.take(1, 1));
        x.load(5, 0);
        due(0, x.take(1, 0));
        due(2, x.take(1, 1));
    }

    private static void takeTheLeastAsBits() {
        about("least as bits");
        SneezeRace x = steady(".", 10, 10, 20);
        x.set(1, 40);
        due(0, x.take(4, 0));
        due(1, x.take(3, 0));
        // a and b (3) as well as c (4).
        due(3, x.take(2, 0));
        due(5, x.take(1, 0));
        due(7, x.take(0, 0));
        // 8 with nothing aboard, 6 with e: 7 lies between.
        SneezeRace far = steady("..", 0, 0, 0, 0, 10);
        far.set(1, 40);
        due(16, far.take(6, 0));
        due(0, far.take(7, 0));
        due(1, far.take(7, 1));
    }

    private static void takeAllOrNothing() {
        about("the set of THINGS to have aboard (none, all of them)");
        SneezeRace x = steady(".", 1, 1, 1, 1, 1, 1);
        x.set(3, 1);
        x.set(1, 9);
        due(63, x.take(3, 0));
        due(0, x.take(3, 1));
        due(0, x.take(4, 0));
        x.set(1, 8);
        due(31, x.take(3, 0));
        due(0, new SneezeRace().take(0, 0));
        due(600, new SneezeRace().take(-600, 1));
    }

    private static void stayRefusals() {
        about("minutes (what = 0), how far (1). OUTSIDE; NO, STATE, likewise.");
        for (int i = 0; i < 2; i++) {
            int what = i;
            courseRefusals(0, x -> x.stay(0, what), x -> x.stay(-601, what), x -> x.stay(601, what));
        }
        courseRefusals(0, x -> x.stay(-600, 0), x -> x.stay(0, -1), x -> x.stay(0, 2), x -> x.stay(LOW, LOW), x -> x.stay(HIGH, HIGH));
        // 12 without a wait, 17 from minute 1 on, 11 from minute 2 on.
        unchanged(0, Asked::anyCourse, x -> x.stay(12, 0));
        unchanged(0, Asked::anyCourse, x -> x.stay(12, 1));
        unchanged(1, Asked::anyCourse, x -> x.stay(600, 0));
        unchanged(583, Asked::anyCourse, x -> x.stay(600, 1));
        unchanged(2, Asked::anyCourse, x -> x.stay(-600, 0));
        unchanged(611, Asked::anyCourse, x -> x.stay(-600, 1));
    }

    private static void stayUpTo20Minutes() {
        about("the minutes (0 to 20) to stay on the ground");
        SneezeRace x = race(".");
        x.set(0, 20);
        due(20, x.stay(-4, 0));
        due(0, x.stay(-4, 1));
        x.set(0, 21);
        due(0, x.stay(-4, 0));
        due(8, x.stay(-4, 1));
        x.say('.');
        due(20, x.stay(0, 0));
        due(0, x.stay(0, 1));
        x.set(0, 22);
        due(0, x.stay(0, 0));
        due(8, x.stay(0, 1));
        x.set(0, 40);
        write(x, times(21, "."));
        x.set(2, 0);
        due(20, x.stay(80 - 4, 0));
        due(0, x.stay(84, 0));
    }

    private static void stayTheLeast() {
        about("the least; how far");
        SneezeRace x = race(".");
        due(0, x.stay(4, 0));
        due(0, x.stay(0, 0));
        due(4, x.stay(0, 1));
        due(10, x.stay(-4, 0));
        x.set(0, 1);
        due(1, x.stay(-4, 0));
        x.set(0, 0);
        due(0, x.stay(-4, 0));
        due(0, x.stay(4, 0));
        due(8, x.stay(4, 1));
        x.wipe();
        due(0, x.stay(5, 0));
        due(5, x.stay(5, 1));
    }

    private static void stayOnTheGround() {
        about("nothing drifts, nothing leaks, TURN comes on");
        SneezeRace x = race(".", 10);
        x.set(2, 9);
        x.set(1, 29);
        x.set(0, 20);
        x.wind(0, 0, 9);
        x.wind(0, 1, 9);
        // Height 1 behind 20 minutes too.
        due(20, x.stay(-1, 0));
        due(0, x.stay(-1, 1));
        due(0, x.stay(1, 0));
        due(0, x.stay(1, 1));
        due(8, x.stay(9, 1));
    }

    private static void moreThanSixSneezesWhereNothingIsChosen() {
        about("FULL stands at NEAREST and FIELD alone");
        SneezeRace x = steady(times(12, "!") + ".", 10);
        x.set(1, 20);
        due(0, x.take(2, 0));
        due(1, x.take(1, 0));
        due(1, x.stay(2, 1));
        due(0, x.stay(2, 0));
        due(0, x.ahead(0, 0));
        due(1, x.ahead(0, 1));
        due(1002, x.mean(10, 0));
        due(1, x.likely(1, 1, 0, 0));
        due(FULL, x.nearest(0, -1));
        due(FULL, x.field(0, 0));
        x.say('!');
        due(NO, x.take(2, 0));
        due(NO, x.stay(2, 0));
        due(NO, x.ahead(0, 0));
        due(GONE + NO, x.mean(10, 0));
        due(GONE + NO, x.likely(1, 1, 0, 0));
    }
}
