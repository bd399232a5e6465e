/** The boundaries of chances, sights, years and images: section 4 of the terms, promises 15 to 23, a test for each sentence. */
public final class ChancesBoundariesTest extends Asked {
    public static void main(String[] args) {
        likelyRefusals();
        likelyTakesTheEndsToo();
        likelyOf0And10Tenths();
        likelyInLowestTerms();
        likelyWithoutSneezes();
        likelyWithNothingAboard();
        likelyThrowsTheHeaviest();
        likelyEachTimeForItself();
        likelyOnTwelveSneezes();
        meanRefusals();
        meanIsToldWith1000();
        meanOnTwelveSneezes();
        thingsAndPlacesOfSights();
        sixSightsAtMost();
        forgetAnswersHowMany();
        startsRefusals();
        startsWithoutSights();
        startsOfAllGas();
        startsOfAThingNotThrown();
        startsAtMinute0();
        startsByWhichAllHold();
        aheadRefusals();
        aheadWhereTheyAreLevel();
        aheadOnNoMinutesAndOnSixty();
        aheadByThingsThatHaveAWeight();
        yearRefusals();
        yearDrawsAheadOfEachMinute();
        yearGoesOnFromRaceToRace();
        yearThrowsTheHeaviest();
        yearOfTenMinutes();
        yearBeginsAnew();
        yearSumsAndEnds();
        imagesAre0And1();
        imageKeepsAllButThePad();
        imageStaysAsItWasKept();
        imageKeepsSights();
        restoreOfWhatWasNotKept();
        finish();
    }

    private static void likelyRefusals() {
        about("OUTSIDE; NO, STATE, likewise; refused with GONE and the refusal");
        for (int i = 0; i < 2; i++) {
            int part = i;
            courseRefusals(GONE, x -> x.likely(0, 0, 3, part), x -> x.likely(-601, 0, 3, part), x -> x.likely(0, 601, 3, part),
                x -> x.likely(1, 0, 3, part), x -> x.likely(0, 0, -1, part), x -> x.likely(0, 0, 11, part));
        }
        courseRefusals(GONE, x -> x.likely(-600, 600, 10, 1), x -> x.likely(0, 0, 3, -1), x -> x.likely(0, 0, 3, 2),
            x -> x.likely(601, 601, 3, 0), x -> x.likely(-601, -601, 3, 0), x -> x.likely(LOW, HIGH, 3, 0),
            x -> x.likely(0, 0, LOW, 0), x -> x.likely(0, 0, HIGH, 0), x -> x.likely(0, 0, 3, LOW), x -> x.likely(0, 0, 3, HIGH));
        due(-1000000000000000002L, race("").likely(1, 0, 0, 0));
        due(-1000000000000000003L, race("a", 1).likely(0, 0, 0, 0));
        due(-1000000000000000005L, race("a").likely(0, 0, 0, 0));
    }

    private static void chance(long upper, long lower, SneezeRace x, int from, int to, int c) {
        due(upper, x.likely(from, to, c, 0));
        due(lower, x.likely(from, to, c, 1));
    }

    private static void likelyTakesTheEndsToo() {
        about("one is at from to to behind all");
        // 12 by no throw, 4 by one at the first sneeze, 3 by one at the second one.
        for (int i = 0; i < 2; i++) {
            int part = i;
            int[] hundred = {49, 100};
            unchanged(hundred[part], Asked::anyCourse, x -> x.likely(12, 600, 3, part));
            unchanged(1, Asked::anyCourse, x -> x.likely(3, 12, 3, part));
            unchanged(part, Asked::anyCourse, x -> x.likely(13, 600, 3, part));
        }
        SneezeRace x = new SneezeRace();
        anyCourse(x);
        chance(49, 100, x, 5, 12, 3);
        chance(3, 10, x, 4, 11, 3);
        chance(21, 100, x, 3, 3, 3);
        chance(51, 100, x, 3, 4, 3);
        chance(79, 100, x, 4, 12, 3);
        chance(0, 1, x, -600, 2, 3);
        chance(0, 1, x, 5, 11, 3);
        chance(0, 1, x, -600, -600, 3);
        chance(0, 1, x, 600, 600, 3);
        chance(1, 1, x, -600, 600, 3);
    }

    private static void likelyOf0And10Tenths() {
        about("with c tenths (0 to 10)");
        SneezeRace x = steady("!.", 10);
        x.set(1, 20);
        chance(1, 1, x, 1, 1, 0);
        chance(0, 1, x, 2, 2, 0);
        chance(0, 1, x, 1, 1, 10);
        chance(1, 1, x, 2, 2, 10);
        chance(9, 10, x, 1, 1, 1);
        chance(1, 10, x, 2, 2, 1);
        chance(1, 10, x, 1, 1, 9);
        due(GONE + OUTSIDE, x.likely(1, 1, 11, 0));
        due(GONE + OUTSIDE, x.likely(1, 1, -1, 0));
    }

    private static void likelyInLowestTerms() {
        about("Fractions are told in lowest terms by part: 0 the upper, 1 the lower number");
        SneezeRace x = steady("!.", 10);
        x.set(1, 20);
        int[][] terms = {{0, 1}, {1, 10}, {1, 5}, {3, 10}, {2, 5}, {1, 2}, {3, 5}, {7, 10}, {4, 5}, {9, 10}, {1, 1}};
        for (int c = 0; c <= 10; c++) {
            chance(terms[c][0], terms[c][1], x, 2, 2, c);
            chance(terms[10 - c][0], terms[10 - c][1], x, 1, 1, c);
        }
    }

    private static void likelyWithoutSneezes() {
        about("at each ! of a COURSE (no !)");
        for (int c = 0; c <= 10; c++) {
            chance(1, 1, race("", 5), 0, 0, c);
            chance(0, 1, race("", 5), 1, 600, c);
            chance(1, 1, race(".", 5), 4, 4, c);
        }
    }

    private static void likelyWithNothingAboard() {
        about("the heaviest THING aboard (nothing aboard)");
        chance(1, 1, race("!!."), 4, 4, 3);
        chance(0, 1, race("!!."), -600, 3, 3);
        // One thing, two sneezes: the second one finds nothing aboard.
        SneezeRace x = steady("!!.", 10);
        x.set(1, 20);
        chance(3, 4, x, 2, 2, 5);
        chance(1, 4, x, 1, 1, 5);
        chance(1, 1, x, 2, 2, 10);
        // Of six things one is left behind five sneezes, none behind six, none to throw at the seventh.
        SneezeRace six = steady("!!!!!.!.!.", 1, 1, 1, 1, 1, 1);
        six.set(3, 1);
        six.set(1, 1);
        chance(1, 1, six, 0 + 1 + 1, 0 + 1 + 1, 10);
    }

    private static void likelyThrowsTheHeaviest() {
        about("the heaviest THING aboard (of several the first) is thrown");
        // The first of several can not be told from the others: what is left weighs the same.
        SneezeRace x = steady("!.!.", 1, 2, 2, 1);
        x.set(3, 1);
        x.set(1, 7);
        chance(1, 1, x, 3 + 4, 3 + 4, 10);
        x.set(1, 6);
        chance(1, 1, x, 2 + 4, 2 + 4, 10);
        x.load(2, 3);
        chance(1, 1, x, 2 + 4, 2 + 4, 10);
        x.load(3, 4);
        chance(1, 1, x, 0 + 3, 0 + 3, 10);
        x.load(0, 5);
        chance(1, 1, x, 0 + 1, 0 + 1, 10);
        x.load(5, 6);
        chance(1, 1, x, 0 + 0, 0 + 0, 10);
    }

    private static void likelyEachTimeForItself() {
        about("each time for itself");
        SneezeRace x = steady("!!.", 10, 10);
        x.set(1, 30);
        chance(49, 100, x, 1, 1, 3);
        chance(21, 50, x, 2, 2, 3);
        chance(9, 100, x, 3, 3, 3);
    }

    private static void likelyOnTwelveSneezes() {
        about("CHANCES: at each ! of a COURSE (twelve)");
        SneezeRace x = steady(times(12, "!") + ".", 10);
        x.set(1, 20);
        chance(1, 1000000000000L, x, 1, 1, 9);
        chance(999999999999L, 1000000000000L, x, 2, 2, 9);
        chance(4095, 4096, x, 2, 2, 5);
        chance(1, 1, x, 1, 2, 9);
        x.say('!');
        due(GONE + NO, x.likely(1, 1, 9, 0));
        write(x, times(11, "!") + ".");
        chance(1, 100000000000L, x, 1, 1, 9);
    }

    private static void meanRefusals() {
        about("OUTSIDE; NO, STATE, likewise; refused with GONE and the refusal");
        for (int i = 0; i < 2; i++) {
            int part = i;
            courseRefusals(GONE, x -> x.mean(3, part), x -> x.mean(-1, part), x -> x.mean(11, part), x -> x.mean(LOW, part),
                x -> x.mean(HIGH, part));
        }
        courseRefusals(GONE, x -> x.mean(10, 1), x -> x.mean(3, -1), x -> x.mean(3, 2), x -> x.mean(3, LOW), x -> x.mean(3, HIGH));
    }

    private static void meanIsToldWith1000() {
        about("The mean place, and 1000.");
        long[] anyMean = {100771, 100};
        for (int i = 0; i < 2; i++) {
            int part = i;
            unchanged(anyMean[part], Asked::anyCourse, x -> x.mean(3, part));
        }
        SneezeRace x = new SneezeRace();
        anyCourse(x);
        mean(1012, 1, x, 0);
        mean(1004, 1, x, 10);
        mean(1000, 1, race("", 5), 7);
        mean(1000, 1, race("!!!!"), 7);
        mean(1004, 1, race("!."), 7);
        // 3 backwards and 4 backwards.
        SneezeRace late = race("!.", 20);
        late.set(0, 0);
        mean(1993, 2, late, 5);
        mean(9967, 10, late, 3);
        mean(997, 1, late, 0);
        mean(996, 1, late, 10);
        SneezeRace far = race(times(60, "."));
        far.set(2, 0);
        far.wind(4, 0, -9);
        far.wind(4, 1, -9);
        mean(460, 1, far, 5);
        far.wind(4, 0, 9);
        far.wind(4, 1, 9);
        mean(1540, 1, far, 5);
    }

    private static void mean(long upper, long lower, SneezeRace x, int c) {
        due(upper, x.mean(c, 0));
        due(lower, x.mean(c, 1));
    }

    private static void meanOnTwelveSneezes() {
        about("the mean place (twelve !)");
        SneezeRace x = steady(times(12, "!") + ".", 10);
        x.set(1, 20);
        // 2 less 1 of 10 to the 12.
        mean(1001999999999999L, 1000000000000L, x, 9);
        mean(1001, 1, x, 0);
        x.say('!');
        due(GONE + NO, x.mean(9, 0));
    }

    private static void thingsAndPlacesOfSights() {
        about("a THING fell at a place (-600 to 600); UNKNOWN; OUTSIDE: the place");
        SneezeRace x = new SneezeRace();
        due(1, x.fell(0, -600));
        due(2, x.fell(5, 600));
        due(3, x.fell(5, 600));
        due(3, x.told(7));
        int[] things = {-1, 6, LOW, HIGH};
        for (int thing : things) {
            unchanged(UNKNOWN, Asked::anyCourse, y -> y.fell(thing, 0));
            unchanged(UNKNOWN, Asked::anyCourse, y -> y.fell(thing, 601));
            unchanged(UNKNOWN, Asked::sixSights, y -> y.fell(thing, 0));
        }
        int[] places = {-601, 601, LOW, HIGH};
        for (int place : places) {
            unchanged(OUTSIDE, Asked::anyCourse, y -> y.fell(0, place));
            unchanged(OUTSIDE, Asked::anyCourse, y -> y.fell(5, place));
            unchanged(OUTSIDE, Asked::sixSights, y -> y.fell(0, place));
        }
    }

    private static void sixSightsAtMost() {
        about("SIGHTS, 6 at most; FULL");
        SneezeRace x = new SneezeRace();
        for (int many = 1; many <= 6; many++) {
            due(many, x.fell(many - 1, many));
        }
        due(FULL, x.fell(0, 0));
        due(6, x.told(7));
        unchanged(FULL, Asked::sixSights, y -> y.fell(0, 0));
        unchanged(FULL, Asked::sixSights, y -> y.fell(5, -600));
        x.forget();
        due(1, x.fell(0, 0));
    }

    private static void forgetAnswersHowMany() {
        about("SIGHTS go: how many there were.");
        SneezeRace x = new SneezeRace();
        due(0, x.forget());
        x.fell(0, 0);
        due(1, x.forget());
        due(0, x.forget());
        for (int many = 0; many < 7; many++) {
            x.fell(0, 0);
        }
        due(6, x.forget());
        due(0, x.told(7));
        due(100, x.starts(0));
        unchanged(0, SneezeRace::forget, SneezeRace::forget);
    }

    private static void startsRefusals() {
        about("OUTSIDE; NO: there is a FAULT.");
        int[] others = {-1, 3, LOW, HIGH};
        for (int what : others) {
            unchanged(OUTSIDE, Asked::anyCourse, x -> x.starts(what));
            unchanged(OUTSIDE, Asked::withThrow, x -> x.starts(what));
            unchanged(OUTSIDE, Asked::withFault, x -> x.starts(what));
        }
        for (int i = 0; i < 3; i++) {
            int what = i;
            unchanged(NO, Asked::withFault, x -> x.starts(what));
            unchanged(NO, Asked::withThrowAndFault, x -> x.starts(what));
            unchanged(NO, Asked::thirteenSneezes, x -> x.starts(what));
            unchanged(what == 0 ? 0 : NONE, Asked::anyCourse, x -> x.starts(what));
            unchanged(what == 0 ? 0 : NONE, Asked::withThrow, x -> x.starts(what));
        }
    }

    private static void startsTell(SneezeRace x, int many, int least, int greatest) {
        due(many, x.starts(0));
        due(least, x.starts(1));
        due(greatest, x.starts(2));
    }

    private static void startsWithoutSights() {
        about("GAS (0 to 99) at the start by which all of them hold (no SIGHTS)");
        startsTell(race(""), 100, 0, 99);
        startsTell(race("!a.", 5), 100, 0, 99);
        startsTell(race("..."), 100, 0, 99);
    }

    private static void startsOfAllGas() {
        about("GAS (0 to 99): how many (what = 0; 0: none), the least (1), the greatest (2; NONE: there is none)");
        SneezeRace x = race(".a", 19);
        x.set(3, 20);
        x.fell(0, 4);
        // 99 less 19 by 20.
        startsTell(x, 1, 99, 99);
        x.load(0, 20);
        startsTell(x, 0, NONE, NONE);
        SneezeRace low = race(".a", 1);
        low.set(3, 1);
        low.fell(0, 0);
        startsTell(low, 2, 0, 1);
        low.forget();
        low.fell(0, 1);
        startsTell(low, 1, 2, 2);
        low.forget();
        low.fell(0, 4);
        startsTell(low, 95, 5, 99);
        low.set(1, 0);
        startsTell(low, 95, 5, 99);
        due(0, low.told(2));
        low.forget();
        low.fell(0, 5);
        startsTell(low, 0, NONE, NONE);
        // 0, 1 and 2 leak down to 0: behind two minutes at height 0 or 1, then 0.
        low = race("..a", 1);
        low.set(3, 1);
        low.set(2, 9);
        low.fell(0, 1);
        startsTell(low, 1, 2, 2);
        low.wind(0, 0, 1);
        startsTell(low, 0, NONE, NONE);
        low.wind(0, 0, -1);
        low.forget();
        low.fell(0, -2);
        startsTell(low, 2, 0, 1);
    }

    private static void startsOfAThingNotThrown() {
        about("a THING that is not thrown does not");
        SneezeRace x = race("!a", 5, 5);
        x.fell(0, 0);
        startsTell(x, 100, 0, 99);
        x.fell(1, 0);
        startsTell(x, 0, NONE, NONE);
        x.forget();
        x.fell(5, 0);
        startsTell(x, 0, NONE, NONE);
        write(x, "");
        startsTell(x, 0, NONE, NONE);
        x.load(5, 1);
        write(x, "f");
        startsTell(x, 100, 0, 99);
        write(x, "!.");
        startsTell(x, 0, NONE, NONE);
        for (int thing = 0; thing < 6; thing++) {
            SneezeRace aboard = race("!.", 1, 1, 1, 1, 1, 1);
            aboard.fell(thing, 0);
            startsTell(aboard, 0, NONE, NONE);
        }
    }

    private static void startsAtMinute0() {
        about("It is late from minute TURN on (STARTS)");
        SneezeRace x = race(".a", 5);
        x.fell(0, 4);
        x.set(0, 1);
        startsTell(x, 55, 45, 99);
        x.set(0, 0);
        startsTell(x, 0, NONE, NONE);
        x.forget();
        x.fell(0, -4);
        startsTell(x, 55, 45, 99);
    }

    private static void startsByWhichAllHold() {
        about("by which all of them hold in the RACE");
        SneezeRace x = race("a.b", 5, 10);
        x.fell(0, 0);
        x.fell(1, 2);
        startsTell(x, 10, 30, 39);
        x.fell(1, 2);
        startsTell(x, 10, 30, 39);
        x.fell(1, 3);
        startsTell(x, 0, NONE, NONE);
        x.forget();
        x.fell(1, 3);
        startsTell(x, 10, 40, 49);
        x.fell(0, 1);
        startsTell(x, 0, NONE, NONE);
        // The first and the last of six are looked at.
        SneezeRace six = race("a.", 1);
        for (int i = 0; i < 5; i++) {
            six.fell(0, 0);
        }
        startsTell(six, 100, 0, 99);
        six.fell(0, 1);
        startsTell(six, 0, NONE, NONE);
        six.forget();
        six.fell(0, 1);
        for (int i = 0; i < 5; i++) {
            six.fell(0, 0);
        }
        startsTell(six, 0, NONE, NONE);
    }

    private static void aheadRefusals() {
        about("OUTSIDE: the set 0 to 63; NO, STATE, likewise.");
        for (int i = 0; i < 2; i++) {
            int what = i;
            courseRefusals(0, x -> x.ahead(0, what), x -> x.ahead(-1, what), x -> x.ahead(64, what), x -> x.ahead(LOW, what),
                x -> x.ahead(HIGH, what));
            // 3, 5, 12 with all, 4, 8, 4 with none.
            unchanged(1 + what, Asked::anyCourse, x -> x.ahead(0, what));
            unchanged(0, Asked::anyCourse, x -> x.ahead(63, what));
        }
        courseRefusals(0, x -> x.ahead(63, 1), x -> x.ahead(0, -1), x -> x.ahead(0, 2), x -> x.ahead(63, LOW), x -> x.ahead(63, HIGH));
    }

    private static void aheadWhereTheyAreLevel() {
        about("at how many minutes' ends the first one is farther (greater place)");
        // 1 a minute with a, 2 without it, then backwards: 1 2 1 0 and 2 4 2 0.
        SneezeRace x = race("....", 10);
        x.set(1, 20);
        x.set(2, 0);
        x.set(0, 2);
        due(0, x.ahead(0, 0));
        due(3, x.ahead(0, 1));
        x.say('.');
        due(1, x.ahead(0, 0));
        due(3, x.ahead(0, 1));
        due(0, x.ahead(1, 0));
        due(0, x.ahead(1, 1));
    }

    private static void aheadOnNoMinutesAndOnSixty() {
        about("at how many minutes' ends (none, sixty)");
        SneezeRace x = steady("", 10);
        x.set(1, 20);
        due(0, x.ahead(0, 0));
        due(0, x.ahead(0, 1));
        write(x, "!!!");
        due(0, x.ahead(0, 1));
        write(x, times(60, "."));
        due(0, x.ahead(0, 0));
        due(60, x.ahead(0, 1));
        for (int late = 0; late < 2; late++) {
            x.wind(1, late, 9);
        }
        due(60, x.ahead(0, 0));
        due(0, x.ahead(0, 1));
    }

    private static void aheadByThingsThatHaveAWeight() {
        about("one with those of them that are in a set");
        SneezeRace x = steady("!.!.", 0, 10, 0, 10);
        x.set(1, 30);
        due(2, x.ahead(0, 1));
        due(2, x.ahead(1 + 4 + 16 + 32, 1));
        due(2, x.ahead(2, 1));
        due(2, x.ahead(8, 1));
        due(0, x.ahead(2 + 8, 1));
        due(0, x.ahead(63, 1));
        due(0, new SneezeRace().ahead(63, 0));
    }

    private static void yearRefusals() {
        about("a seed (0 to 9999) of n races (1 to 60); the sum (what = 0), the least (1), the greatest (2). OUTSIDE.");
        int[] seeds = {-1, 10000, LOW, HIGH};
        int[] races = {0, 61, -1, LOW, HIGH};
        int[] whats = {-1, 3, LOW, HIGH};
        Scene[] scenes = {Asked::anyCourse, Asked::withFault};
        for (Scene scene : scenes) {
            for (int seed : seeds) {
                unchanged(OUTSIDE, scene, x -> x.year(seed, 1, 0));
            }
            for (int n : races) {
                unchanged(OUTSIDE, scene, x -> x.year(0, n, 0));
            }
            for (int what : whats) {
                unchanged(OUTSIDE, scene, x -> x.year(0, 1, what));
            }
        }
    }

    /** Height 0 with all, 2 without b, 4 without c too, and without a. */
    private static SneezeRace threeThings() {
        SneezeRace x = steady("", 10, 20, 20);
        x.set(0, 10);
        return x;
    }

    private static void yearTells(SneezeRace x, int seed, int n, int sum, int least, int greatest) {
        due(sum + 100000, x.year(seed, n, 0));
        due(least + 1000, x.year(seed, n, 1));
        due(greatest + 1000, x.year(seed, n, 2));
    }

    private static void yearDrawsAheadOfEachMinute() {
        about("x, the seed at first, becomes (75 x and 74) left over by 65537 ahead of each minute; left over by 4 as 0");
        // 74, 5624, 28652, .., 9344, 45504, 4950: throws ahead of minutes 1, 2, 7, 8.
        yearTells(threeThings(), 0, 1, 0 + 2 + 7 * 4 + 4, 34, 34);
        // 29092, .., 59932, .., 796, .., 26608, 29564: ahead of minutes 0, 4, 6, 8, 9.
        yearTells(threeThings(), 9999, 1, 4 * 2 + 6 * 4, 32, 32);
        // 149, 11249, 57305, 38044, .., 25472, 9901: ahead of minutes 3 and 8.
        yearTells(threeThings(), 1, 1, 5 * 2 + 2 * 4, 18, 18);
    }

    private static void yearGoesOnFromRaceToRace() {
        about("it goes on from race to race");
        // Seed 5 throws nothing in the first race, and ahead of minutes 0 and 1 in the second one.
        yearTells(threeThings(), 5, 1, 0, 0, 0);
        yearTells(threeThings(), 5, 2, 38, 0, 38);
    }

    private static void yearThrowsTheHeaviest() {
        about("the heaviest THING aboard (of several the first) is thrown");
        SneezeRace x = threeThings();
        x.wind(3, 0, 9);
        // Throws ahead of minutes 3 and 8: 20 and 20; a is never thrown.
        yearTells(x, 1, 1, 3 * 0 + 5 * 2 + 2 * 4, 18, 18);
        x.load(2, 10);
        // 20, then 10: heights 1, 3 and 4.
        yearTells(x, 1, 1, 3 + 5 * 9 + 2 * 4, 56, 56);
        loadAll(x, 0, 0, 0);
        yearTells(x, 1, 1, 40, 40, 40);
    }

    private static void yearOfTenMinutes() {
        about("n races of ten minutes each, each of which begins anew at minute 0");
        SneezeRace x = race("");
        x.set(2, 0);
        yearTells(x, 5, 2, 80, 40, 40);
        x.set(0, 9);
        yearTells(x, 5, 2, 64, 32, 32);
        x.set(0, 11);
        yearTells(x, 5, 2, 80, 40, 40);
        x.set(0, 0);
        yearTells(x, 5, 2, -80, -40, -40);
    }

    private static void yearBeginsAnew() {
        about("begins anew with GAS and THINGS as they are told now");
        SneezeRace x = race("z");
        x.set(1, 40);
        x.set(2, 9);
        // 40, 31, 22, 13 and below 10.
        yearTells(x, 5, 60, 600, 10, 10);
        x.set(1, 0);
        yearTells(x, 5, 60, 0, 0, 0);
        // One thing goes in both races: at the first minute of the second one, not at all in the first one.
        x = steady("", 20);
        x.set(1, 20);
        yearTells(x, 5, 2, 20, 0, 20);
        // Ahead of the first minute of the first race, of the ninth one of the second.
        yearTells(x, 9999, 2, 20 + 4, 4, 20);
    }

    private static void yearSumsAndEnds() {
        about("the sum of all places at the ends and 100000; the least, the greatest, and 1000 (1 to 60 races)");
        SneezeRace x = race("");
        x.set(2, 0);
        x.wind(4, 0, 9);
        yearTells(x, 0, 1, 90, 90, 90);
        yearTells(x, 0, 60, 5400, 90, 90);
        x.wind(4, 0, -9);
        yearTells(x, 9999, 60, -5400, -90, -90);
        yearTells(x, 9999, 1, -90, -90, -90);
        unchanged(100000 - 30, y -> y.wind(4, 0, -3), y -> y.year(5, 1, 0));
    }

    private static void imagesAre0And1() {
        about("an IMAGE (0, 1): 1. OUTSIDE.");
        SneezeRace x = race("", 3);
        due(1, x.image(0));
        x.load(0, 4);
        due(1, x.image(1));
        due(1, x.restore(0));
        due(3, x.told(10));
        due(1, x.restore(1));
        due(4, x.told(10));
        int[] others = {-1, 2, LOW, HIGH};
        for (int n : others) {
            unchanged(OUTSIDE, Asked::anyCourse, y -> y.image(n));
            unchanged(OUTSIDE, Asked::anyCourse, y -> y.restore(n));
            unchanged(OUTSIDE, y -> y.load(0, 1), y -> y.restore(n));
        }
    }

    private static void imageKeepsAllButThePad() {
        about("All but the PAD is kept");
        SneezeRace x = new SneezeRace();
        anyCourse(x);
        x.image(1);
        long[] kept = new long[35];
        for (int what = 1; what < 35; what++) {
            kept[what] = x.told(what);
        }
        for (int which = 0; which < 6; which++) {
            x.set(which, 1);
            x.load(which, 1);
        }
        for (int height = 0; height < 5; height++) {
            x.wind(height, 0, 9);
            x.wind(height, 1, -9);
        }
        x.forget();
        write(x, ".a");
        due(1, x.restore(1));
        for (int what = 1; what < 35; what++) {
            due(kept[what], x.told(what));
        }
        due(2, x.told(0));
        due(1, x.judge(1));
        due(1, x.judge(0));
        write(x, "d!.b");
        x.restore(1);
        due(4, x.told(0));
        due(2, x.judge(0));
    }

    private static void imageStaysAsItWasKept() {
        about("It is as it was when it was kept");
        SneezeRace x = race("a.", 5);
        x.fell(0, 0);
        x.image(0);
        for (int i = 0; i < 6; i++) {
            x.fell(0, 1);
        }
        due(0, x.starts(0));
        due(1, x.restore(0));
        due(1, x.told(7));
        due(100, x.starts(0));
        x.load(0, 0);
        x.forget();
        due(1, x.restore(0));
        due(5, x.told(10));
        due(1, x.told(7));
        for (int i = 0; i < 5; i++) {
            x.fell(0, 0);
        }
        x.image(0);
        x.forget();
        x.restore(0);
        due(6, x.told(7));
        due(FULL, x.fell(0, 0));
        x.forget();
        x.image(0);
        x.fell(0, 600);
        x.restore(0);
        due(0, x.told(7));
        due(100, x.starts(0));
    }

    private static void imageKeepsSights() {
        about("All but the PAD is kept (SIGHTS)");
        SneezeRace x = race("a.b", 5, 10);
        x.fell(0, 0);
        x.fell(1, 2);
        x.image(0);
        x.forget();
        x.fell(1, 3);
        x.fell(0, 0);
        startsTell(x, 10, 40, 49);
        x.image(1);
        x.forget();
        x.fell(2, 0);
        x.fell(2, 0);
        startsTell(x, 0, NONE, NONE);
        x.restore(0);
        startsTell(x, 10, 30, 39);
        x.restore(1);
        startsTell(x, 10, 40, 49);
        x.forget();
        x.fell(0, 0);
        x.fell(0, 5);
        startsTell(x, 0, NONE, NONE);
        x.restore(1);
        startsTell(x, 10, 40, 49);
    }

    private static void restoreOfWhatWasNotKept() {
        about("STATE: it was not.");
        unchanged(STATE, Asked::anyCourse, x -> x.restore(1));
        unchanged(STATE, x -> x.load(0, 1), x -> x.restore(0));
        unchanged(STATE, x -> x.load(0, 1), x -> x.restore(1));
        unchanged(STATE, x -> x.image(1), x -> x.restore(0));
        SneezeRace x = new SneezeRace();
        due(STATE, x.restore(0));
        x.image(0);
        due(1, x.restore(0));
        due(STATE, x.restore(1));
        x.image(1);
        due(1, x.restore(1));
        due(1, x.restore(0));
    }
}
