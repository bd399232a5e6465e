/** The boundaries of skies, balloons and texts: section 1 of the terms, promises 1 to 7 and 24, a test for each sentence. */
public final class SkiesBoundariesTest extends Asked {
    public static void main(String[] args) {
        nothingIsAboardAtFirst();
        heightsAre0To4();
        windsAreMinus9To9();
        windsAreEarlyOrLate();
        windsAtFirst();
        windAnswersWhichItWas();
        lateFromMinuteTurnOn();
        turnIs0To40();
        gasIs0To99();
        leakIs0To9();
        gasLeaksDownTo0();
        thingsAre0To5();
        weightsAre0To20();
        weight0IsNotAboard();
        stepIs1To20();
        heightIsCut();
        heightIs0AtLeast();
        heightIs4AtMost();
        driftsThenLeaks();
        dIs0To9();
        wIs1To20();
        whichNumberIs0To5();
        setAnswersWhichItWas();
        padHolds60Signs();
        codesAre33To126();
        wipeAnswersHowMany();
        wipedSignsAreGone();
        faultOfATextWithoutSigns();
        faultAtOtherSigns();
        faultAtAThingNotAboard();
        faultAtAThingNotAnyMore();
        faultAtAThirteenthSneeze();
        faultIsTheFirst();
        faultByWeightsOfNow();
        toldHasGaps();
        toldNumbersSigns();
        finish();
    }

    private static void nothingIsAboardAtFirst() {
        about("Nothing is aboard.");
        SneezeRace x = new SneezeRace();
        due(0, x.at(0, 3));
        for (int thing = 0; thing < 6; thing++) {
            due(0, x.told(10 + thing));
        }
        x.load(0, 1);
        due(1, x.at(0, 3));
    }

    private static void heightsAre0To4() {
        about("HEIGHTS are 0 to 4.");
        SneezeRace x = new SneezeRace();
        due(100, x.wind(0, 0, 5));
        due(104, x.wind(4, 0, -5));
        due(105, x.told(20));
        due(95, x.told(24));
        int[] others = {-1, 5, 6, LOW, HIGH};
        for (int height : others) {
            unchanged(UNKNOWN, Asked::anyCourse, y -> y.wind(height, 0, 1));
            unchanged(UNKNOWN, Asked::anyCourse, y -> y.wind(height, 1, 1));
        }
    }

    private static void windsAreMinus9To9() {
        about("WIND: -9 to 9 places a minute");
        for (int late = 0; late < 2; late++) {
            int when = late;
            SneezeRace x = race("...");
            x.set(2, 0);
            x.set(0, late == 0 ? 40 : 0);
            x.wind(4, late, -9);
            due(91, x.told(24 + 10 * late));
            due(1000 - 27, x.at(-1, 0));
            x.wind(4, late, 9);
            due(109, x.told(24 + 10 * late));
            due(1000 + 27, x.at(-1, 0));
            int[] others = {-10, 10, 100, LOW, HIGH};
            for (int v : others) {
                unchanged(OUTSIDE, Asked::anyCourse, y -> y.wind(4, when, v));
            }
        }
    }

    private static void windsAreEarlyOrLate() {
        about("WIND (late 0, 1)");
        SneezeRace x = new SneezeRace();
        due(103, x.wind(3, 0, 7));
        due(97, x.wind(3, 1, -7));
        due(107, x.told(23));
        due(93, x.told(33));
        int[] others = {-1, 2, LOW, HIGH};
        for (int late : others) {
            unchanged(OUTSIDE, Asked::anyCourse, y -> y.wind(3, late, 1));
        }
    }

    private static void windsAtFirst() {
        about("at first the HEIGHT early, 0 less it late");
        for (int height = 0; height < 5; height++) {
            SneezeRace x = new SneezeRace();
            due(100 + height, x.wind(height, 0, 0));
            due(100 - height, x.wind(height, 1, 0));
        }
    }

    private static void windAnswersWhichItWas() {
        about("WIND (late 0, 1): which it was, and 100.");
        SneezeRace x = new SneezeRace();
        x.wind(2, 0, -9);
        due(91, x.wind(2, 0, 9));
        due(109, x.wind(2, 0, 0));
        due(100, x.wind(2, 0, 0));
        due(98, x.wind(2, 1, 4));
    }

    private static void lateFromMinuteTurnOn() {
        about("It is late from minute TURN on (.. 10 at first).");
        SneezeRace x = race(times(60, "."));
        x.set(2, 0);
        due(10, x.told(1));
        due(1000 + 10 * 4, x.at(10, 0));
        due(1000 + 10 * 4 - 4, x.at(11, 0));
        x.set(0, 0);
        due(1000, x.at(0, 0));
        due(1000 - 4, x.at(1, 0));
        x.set(0, 1);
        due(1000 + 4, x.at(1, 0));
        due(1000 + 4 - 4, x.at(2, 0));
        x.set(0, 40);
        due(1000 + 40 * 4, x.at(40, 0));
        due(1000 + 40 * 4 - 4, x.at(41, 0));
        due(1000 + 40 * 4 - 20 * 4, x.at(60, 0));
    }

    private static void turnIs0To40() {
        about("TURN (0 to 40; 10 at first)");
        numberIs(0, 0, 40, 10);
    }

    private static void gasIs0To99() {
        about("starts at place 0 with GAS (0 to 99; 50 at first)");
        numberIs(1, 0, 99, 50);
        SneezeRace x = new SneezeRace();
        due(1000, x.at(0, 0));
        due(50, x.at(0, 2));
        x.set(1, 0);
        due(0, x.at(0, 2));
        x.set(1, 99);
        due(99, x.at(0, 2));
    }

    private static void leakIs0To9() {
        about("loses LEAK (0 to 9; 1 at first) each minute");
        numberIs(2, 0, 9, 1);
        SneezeRace x = race("..");
        due(49, x.at(1, 2));
        due(48, x.at(2, 2));
        x.set(2, 0);
        due(50, x.at(1, 2));
        due(50, x.at(2, 2));
        x.set(2, 9);
        due(41, x.at(1, 2));
        due(32, x.at(2, 2));
    }

    private static void gasLeaksDownTo0() {
        about("loses LEAK each minute, down to 0");
        SneezeRace x = race("..");
        x.set(2, 9);
        int[][] startAndLeft = {{10, 1}, {9, 0}, {8, 0}, {1, 0}, {0, 0}};
        for (int[] pair : startAndLeft) {
            x.set(1, pair[0]);
            due(pair[1], x.at(1, 2));
            due(0, x.at(2, 2));
            due(0, x.at(2, 1));
        }
    }

    /** One of the numbers of set: both its limits, one beyond each, and what it is at first. */
    private static void numberIs(int which, int least, int greatest, int atFirst) {
        SneezeRace x = new SneezeRace();
        due(atFirst, x.told(1 + which));
        due(atFirst, x.set(which, least));
        due(least, x.told(1 + which));
        due(least, x.set(which, greatest));
        due(greatest, x.told(1 + which));
        int[] others = {least - 1, greatest + 1, LOW, HIGH};
        for (int v : others) {
            due(OUTSIDE, x.set(which, v));
            due(greatest, x.told(1 + which));
            unchanged(OUTSIDE, Asked::anyCourse, y -> y.set(which, v));
        }
    }

    private static void thingsAre0To5() {
        about("THINGS 0 to 5 (a to f)");
        SneezeRace x = race("af");
        due(0, x.load(0, 1));
        due(1, x.fault());
        due(0, x.load(5, 1));
        due(NONE, x.fault());
        due(0, x.load(1, 1));
        int[] others = {-1, 6, LOW, HIGH};
        for (int thing : others) {
            unchanged(UNKNOWN, Asked::anyCourse, y -> y.load(thing, 1));
        }
    }

    private static void weightsAre0To20() {
        about("each of a weight (0 to 20");
        for (int thing = 0; thing < 6; thing++) {
            int which = thing;
            SneezeRace x = new SneezeRace();
            due(0, x.load(which, 20));
            due(20, x.told(10 + which));
            due(20, x.load(which, 0));
            due(0, x.told(10 + which));
            int[] others = {-1, 21};
            for (int weight : others) {
                unchanged(OUTSIDE, Asked::anyCourse, y -> y.load(which, weight));
            }
        }
        unchanged(OUTSIDE, Asked::anyCourse, y -> y.load(0, LOW));
        unchanged(OUTSIDE, Asked::anyCourse, y -> y.load(0, HIGH));
    }

    private static void weight0IsNotAboard() {
        about("0: it is not aboard, as at first");
        SneezeRace x = race("a");
        due(0, x.fault());
        x.load(0, 1);
        due(NONE, x.fault());
        due(1, x.at(0, 3));
        x.load(0, 0);
        due(0, x.fault());
        x.wipe();
        due(0, x.at(0, 3));
        x.load(1, 1);
        due(1, x.at(0, 3));
    }

    private static void stepIs1To20() {
        about("by STEP (1 to 20; 10 at first)");
        numberIs(3, 1, 20, 10);
        SneezeRace x = new SneezeRace();
        x.set(3, 1);
        heightsByGas(x, 0, 0, 1, 1, 2, 2, 3, 3, 4, 4);
        x.set(3, 20);
        heightsByGas(x, 19, 0, 20, 1, 39, 1, 40, 2, 59, 2, 60, 3, 79, 3, 80, 4);
    }

    /** GAS and HEIGHT, one pair behind the other. */
    private static void heightsByGas(SneezeRace x, int... pairs) {
        for (int i = 0; i < pairs.length; i += 2) {
            x.set(1, pairs[i]);
            due(pairs[i + 1], x.at(0, 1));
        }
    }

    private static void heightIsCut() {
        about("HEIGHT: GAS less weights of what is aboard, by STEP, cut");
        heightsByGas(new SneezeRace(), 9, 0, 10, 1, 19, 1, 20, 2, 29, 2, 30, 3, 39, 3, 40, 4);
        heightsByGas(race("", 0, 0, 3, 0, 0, 4), 16, 0, 17, 1, 26, 1, 27, 2, 46, 3, 47, 4);
    }

    private static void heightIs0AtLeast() {
        about("0 at least");
        heightsByGas(race("", 20), 0, 0, 9, 0, 10, 0, 11, 0, 19, 0, 20, 0, 29, 0, 30, 1);
        SneezeRace x = race(".!a!b.", 20, 20, 20, 20, 20, 20);
        x.set(3, 1);
        x.wind(0, 0, 8);
        x.wind(1, 0, -9);
        heightsByGas(x, 0, 0, 99, 0);
        due(1008, x.at(1, 0));
        // a and b are gone: 98 less 80, by STEP 1, is height 4.
        due(1012, x.at(2, 0));
    }

    private static void heightIs4AtMost() {
        about("4 at most");
        heightsByGas(new SneezeRace(), 39, 3, 40, 4, 49, 4, 50, 4, 60, 4, 99, 4);
        SneezeRace x = race(".");
        x.set(3, 1);
        heightsByGas(x, 3, 3, 4, 4, 5, 4, 99, 4);
        due(1004, x.at(-1, 0));
    }

    private static void driftsThenLeaks() {
        about("In a minute it drifts by the WIND at its HEIGHT, then GAS leaks.");
        SneezeRace x = race("..");
        x.set(1, 40);
        due(1004, x.at(1, 0));
        due(3, x.at(1, 1));
        due(1007, x.at(2, 0));
    }

    private static void dIs0To9() {
        about("D (0 to 9; 3 at first");
        numberIs(4, 0, 9, 3);
    }

    private static void wIs1To20() {
        about("W 1 to 20; 5 at first)");
        numberIs(5, 1, 20, 5);
    }

    private static void whichNumberIs0To5() {
        about("0 TURN, 1 GAS, 2 LEAK, 3 STEP, 4 D, 5 W .. OUTSIDE.");
        SneezeRace x = new SneezeRace();
        due(10, x.set(0, 7));
        due(5, x.set(5, 7));
        int[] others = {-1, 6, 7, LOW, HIGH};
        for (int which : others) {
            unchanged(OUTSIDE, Asked::anyCourse, y -> y.set(which, 5));
        }
    }

    private static void setAnswersWhichItWas() {
        about("which it was");
        SneezeRace x = new SneezeRace();
        int[] atFirst = {10, 50, 1, 10, 3, 5};
        for (int which = 0; which < 6; which++) {
            due(atFirst[which], x.set(which, 2 + which));
        }
        for (int which = 0; which < 6; which++) {
            due(2 + which, x.set(which, 2 + which));
        }
        due(0, x.load(3, 7));
        due(7, x.load(3, 7));
        due(7, x.load(3, 0));
        due(0, x.load(3, 0));
    }

    private static void padHolds60Signs() {
        about("a PAD of up to 60 signs");
        SneezeRace x = new SneezeRace();
        for (int many = 1; many <= 60; many++) {
            due(many, x.say('.'));
        }
        due(FULL, x.say('.'));
        due(60, x.told(0));
        due(60, x.judge(1));
        due(60, x.wipe());
        due(1, x.say('!'));
        unchanged(FULL, Asked::fullPad, y -> y.say('.'));
        unchanged(FULL, Asked::fullPad, y -> y.say('!'));
        unchanged(FULL, Asked::fullPad, y -> y.say('z'));
    }

    private static void codesAre33To126() {
        about("codes 33 to 126");
        SneezeRace x = new SneezeRace();
        due(1, x.say(33));
        due(2, x.say(126));
        due(3, x.say(34));
        due(4, x.say(125));
        int[] others = {32, 127, 0, -1, 10, 128, 256 + 46, 65536 + 46, LOW, HIGH};
        for (int sign : others) {
            unchanged(OUTSIDE, Asked::anyCourse, y -> y.say(sign));
            unchanged(OUTSIDE, Asked::fullPad, y -> y.say(sign));
        }
    }

    private static void wipeAnswersHowMany() {
        about("Signs go: how many there were.");
        SneezeRace x = new SneezeRace();
        due(0, x.wipe());
        x.say('.');
        due(1, x.wipe());
        due(0, x.told(0));
        due(1000, x.at(-1, 0));
        write(x, times(60, "x"));
        due(60, x.wipe());
        due(NONE, x.fault());
        unchanged(0, SneezeRace::wipe, SneezeRace::wipe);
    }

    private static void wipedSignsAreGone() {
        about("Signs go");
        String[] texts = {"ab!c.", "!!!!a.", ".a!b", "z", times(13, "!")};
        for (String text : texts) {
            SneezeRace x = race(text, 5, 5, 5);
            x.wipe();
            x.fell(0, 0);
            due(NONE, x.fault());
            due(3, x.at(-1, 3));
            due(0, x.judge(0));
            due(0, x.judge(2));
            due(NONE, x.judge(3));
            due(3, x.pepper(0));
            due(OUTSIDE, x.pepper(1));
            due(600, x.nearest(600, -1));
            due(NONE, x.nearest(600, 0));
            due(1, x.field(-600, 600));
            due(0, x.take(0, 0));
            due(1, x.likely(0, 0, 5, 1));
            due(0, x.starts(0));
            write(x, ".");
            due(1003, x.at(-1, 0));
            due(NONE, x.judge(3));
            due(1003, x.mean(5, 0));
        }
    }

    private static void faultOfATextWithoutSigns() {
        about("THE FAULT; NONE.");
        due(NONE, new SneezeRace().fault());
        due(NONE, race("", 1, 1).fault());
        due(NONE, race(".").fault());
        due(0, race("a").fault());
    }

    private static void faultAtOtherSigns() {
        about("can not stand there (other signs");
        for (int sign = 33; sign <= 126; sign++) {
            boolean stands = sign == '.' || sign == '!' || sign >= 'a' && sign <= 'f';
            due(stands ? NONE : 0, race("" + (char) sign, 1, 1, 1, 1, 1, 1).fault());
            due(stands ? NONE : 2, race(".!" + (char) sign, 1, 1, 1, 1, 1, 1).fault());
            due(sign == '.' || sign == '!' ? NONE : 0, race("" + (char) sign).fault());
        }
        due(59, race(times(59, ".") + "-").fault());
        due(NONE, race(times(60, ".")).fault());
    }

    private static void faultAtAThingNotAboard() {
        about("a THING that is not aboard");
        for (int thing = 0; thing < 6; thing++) {
            SneezeRace x = race("!" + (char) ('a' + thing) + ".", 1, 1, 1, 1, 1, 1);
            due(NONE, x.fault());
            x.load(thing, 0);
            due(1, x.fault());
            SneezeRace only = race("!" + (char) ('a' + thing) + ".");
            due(1, only.fault());
            only.load(thing, 1);
            due(NONE, only.fault());
        }
    }

    private static void faultAtAThingNotAnyMore() {
        about("or not any more");
        for (int thing = 0; thing < 6; thing++) {
            char letter = (char) ('a' + thing);
            due(2, race("!" + letter + letter, 1, 1, 1, 1, 1, 1).fault());
            due(4, race("!" + letter + ".!" + letter, 1, 1, 1, 1, 1, 1).fault());
        }
        due(NONE, race("abcdef", 1, 1, 1, 1, 1, 1).fault());
        due(6, race("abcdefc", 1, 1, 1, 1, 1, 1).fault());
    }

    private static void faultAtAThirteenthSneeze() {
        about("a thirteenth !");
        due(NONE, race(times(12, "!")).fault());
        due(12, race(times(13, "!")).fault());
        due(12, race(times(14, "!")).fault());
        due(NONE, race(times(12, "!.") + "a..", 1).fault());
        due(24, race(times(12, "!.") + "!").fault());
        due(26, race("a" + times(12, ".!") + ".!", 1).fault());
    }

    private static void faultIsTheFirst() {
        about("the place (from 0 on) of the first sign that can not stand there");
        due(0, race("zz").fault());
        due(1, race(".zbz").fault());
        due(2, race("a.azz", 1).fault());
        due(12, race(times(13, "!") + "z").fault());
        due(0, race("z" + times(13, "!")).fault());
    }

    private static void faultByWeightsOfNow() {
        about("A THING has a weight");
        SneezeRace x = race(".ab");
        due(1, x.fault());
        x.load(0, 20);
        due(2, x.fault());
        x.load(1, 1);
        due(NONE, x.fault());
        x.load(0, 0);
        due(1, x.fault());
    }

    private static void toldHasGaps() {
        about("0 signs, 1 TURN .. 7 SIGHTS, 10 on .. 20 on .. 30 on .. OUTSIDE.");
        int[] others = {LOW, -1, 8, 9, 16, 17, 18, 19, 25, 26, 29, 35, 36, 40, HIGH};
        for (int what : others) {
            unchanged(OUTSIDE, Asked::anyCourse, y -> y.told(what));
        }
        int[] numbers = {5, 2, 60, 3, 7, 2, 2, 3};
        for (int i = 0; i < numbers.length; i++) {
            int what = i;
            unchanged(numbers[what], Asked::anyCourse, y -> y.told(what));
        }
        int[] weights = {10, 5, 0, 20, 0, 2};
        for (int thing = 0; thing < 6; thing++) {
            int what = 10 + thing;
            unchanged(weights[thing], Asked::anyCourse, y -> y.told(what));
        }
        int[] early = {100, 97, 102, 103, 104};
        int[] late = {106, 99, 107, 97, 96};
        for (int height = 0; height < 5; height++) {
            int what = 20 + height;
            unchanged(early[height], Asked::anyCourse, y -> y.told(what));
            unchanged(late[height], Asked::anyCourse, y -> y.told(what + 10));
        }
    }

    private static void toldNumbersSigns() {
        about("0 signs");
        SneezeRace x = new SneezeRace();
        due(0, x.told(0));
        x.say('~');
        due(1, x.told(0));
        write(x, times(61, "."));
        due(60, x.told(0));
        x.wipe();
        due(0, x.told(0));
    }
}
