/** The boundaries of races and judges: section 2 of the terms, FINES, promises 8 to 10, a test for each sentence. */
public final class RacesBoundariesTest extends Asked {
    public static void main(String[] args) {
        minute0IsAheadOfAllSigns();
        behindAMinuteIsAheadOfItsThrows();
        minusOneIsBehindAllSigns();
        atATextWithoutSigns();
        minutesAreAsManyAsThereAre();
        atTells0To3();
        atNoIsAhead();
        farthestPlaces();
        throwsAreFined();
        throwsBehindSneezesAreNotFined();
        judgeTells0To3();
        judgeNoIsAhead();
        judgeATextWithoutSigns();
        doubtIsMoreThanD();
        doubtCountsItsOwnMinute();
        doubtCountsWLess1MinutesAhead();
        doubtCountsSneezesAheadAlone();
        doubtIsTheFirstSneeze();
        doubtNumbersSneezesAlone();
        pepperMinutes();
        pepperNoIsAhead();
        pepperUpToD();
        pepperNoneAtAnyMinute();
        pepperSneezesAheadCount();
        pepperSneezesBehindCount();
        pepperWhateverTheNumberOfSneezes();
        finish();
    }

    private static void minute0IsAheadOfAllSigns() {
        about("m 0: ahead of all signs");
        SneezeRace x = race("ab.c!.", 10, 10, 10);
        atTells(x, 0, 1000, 2, 50, 3);
        write(x, "abc");
        atTells(x, 0, 1000, 2, 50, 3);
        atTells(x, -1, 1000, 4, 50, 0);
    }

    private static void behindAMinuteIsAheadOfItsThrows() {
        about("just behind its m-th .");
        SneezeRace x = race("ab.c!.", 10, 10, 10);
        // Height 4 (50 less 10), then 4 (49).
        atTells(x, 1, 1004, 3, 49, 1);
        atTells(x, 2, 1008, 4, 48, 0);
        write(x, "..abc");
        // Height 2 (50 less 30), then 1 (49 less 30).
        atTells(x, 1, 1002, 1, 49, 3);
        atTells(x, 2, 1003, 1, 48, 3);
    }

    private static void minusOneIsBehindAllSigns() {
        about("-1: behind all signs");
        SneezeRace x = race("..abc", 10, 10, 10);
        atTells(x, -1, 1003, 4, 48, 0);
        write(x, "..abc.");
        atTells(x, -1, 1007, 4, 47, 0);
    }

    /** Place and 1000, HEIGHT, GAS, THINGS. */
    private static void atTells(SneezeRace x, int m, int... wanted) {
        for (int what = 0; what < wanted.length; what++) {
            due(wanted[what], x.at(m, what));
        }
    }

    private static void atATextWithoutSigns() {
        about("a RACE just behind its m-th . (a text without signs)");
        SneezeRace x = race("", 20, 0, 3);
        atTells(x, 0, 1000, 2, 50, 2);
        atTells(x, -1, 1000, 2, 50, 2);
        due(OUTSIDE, x.at(1, 0));
        due(OUTSIDE, x.at(-2, 0));
    }

    private static void minutesAreAsManyAsThereAre() {
        about("OUTSIDE: also more minutes than there are");
        // 4 a minute for ten, then 4, 3 for ten, 2 for ten, 1 for ten backwards, and then none: GAS is below 10.
        atTells(race(times(60, ".")), 60, 1000 + 40 - 4 - 30 - 20 - 10);
        due(OUTSIDE, race(times(60, ".")).at(61, 0));
        int[] answers = {1012, 2, 51, 4};
        for (int i = 0; i < 4; i++) {
            int what = i;
            unchanged(answers[what], Asked::anyCourse, y -> y.at(3, what));
            unchanged(answers[what], Asked::anyCourse, y -> y.at(-1, what));
            unchanged(OUTSIDE, Asked::anyCourse, y -> y.at(4, what));
            unchanged(OUTSIDE, Asked::anyCourse, y -> y.at(-2, what));
        }
        unchanged(OUTSIDE, Asked::anyCourse, y -> y.at(LOW, 0));
        unchanged(OUTSIDE, Asked::anyCourse, y -> y.at(HIGH, 0));
    }

    private static void atTells0To3() {
        about("0 the place and 1000, 1 HEIGHT, 2 GAS, 3 THINGS aboard. OUTSIDE");
        int[] others = {-1, 4, LOW, HIGH};
        for (int what : others) {
            unchanged(OUTSIDE, Asked::anyCourse, y -> y.at(0, what));
            unchanged(OUTSIDE, Asked::anyCourse, y -> y.at(-1, what));
        }
    }

    private static void atNoIsAhead() {
        about("NO (ahead): there is a FAULT");
        unchanged(NO, Asked::withFault, y -> y.at(0, 0));
        unchanged(NO, Asked::withFault, y -> y.at(-1, 3));
        unchanged(NO, Asked::withFault, y -> y.at(-2, 0));
        unchanged(NO, Asked::withFault, y -> y.at(99, 0));
        unchanged(NO, Asked::withFault, y -> y.at(0, 4));
        unchanged(NO, Asked::withFault, y -> y.at(0, -1));
        unchanged(NO, Asked::withFault, y -> y.at(LOW, HIGH));
        unchanged(4, Asked::anyCourse, y -> y.at(0, 3));
        unchanged(3, Asked::withThrow, y -> y.at(-1, 3));
    }

    private static void farthestPlaces() {
        about("-9 to 9 places a minute, up to 60 signs");
        SneezeRace x = race(times(60, "."));
        x.set(2, 0);
        x.wind(4, 0, 9);
        x.wind(4, 1, 9);
        due(1540, x.at(60, 0));
        x.wind(4, 0, -9);
        x.wind(4, 1, -9);
        due(460, x.at(60, 0));
    }

    private static void throwsAreFined() {
        about("A throw is FINED");
        due(0, race("").judge(0));
        due(0, race("..!!.").judge(0));
        due(1, race("a", 1).judge(0));
        due(1, race(".a", 1).judge(0));
        due(1, race("!.a", 1).judge(0));
        due(1, race("a!", 1).judge(0));
        due(1, race("!ab", 1, 1).judge(0));
        due(6, race("abcdef", 1, 1, 1, 1, 1, 1).judge(0));
    }

    private static void throwsBehindSneezesAreNotFined() {
        about("unless the sign ahead of it is !");
        due(0, race("!a", 1).judge(0));
        due(0, race("!!a", 1).judge(0));
        due(0, race("!a!b!c!d!e!f", 1, 1, 1, 1, 1, 1).judge(0));
        due(5, race("!fabcde", 1, 1, 1, 1, 1, 1).judge(0));
        due(1, race("!a.b", 1, 1).judge(0));
    }

    private static void judgeTells0To3() {
        about("FINES (what = 0), minutes (1), sneezes (2), DOUBT (3; NONE). OUTSIDE");
        int[] answers = {1, 3, 2, NONE};
        for (int i = 0; i < 4; i++) {
            int what = i;
            unchanged(answers[what], Asked::withThrow, y -> y.judge(what));
        }
        int[] others = {-1, 4, LOW, HIGH};
        for (int what : others) {
            unchanged(OUTSIDE, Asked::withThrow, y -> y.judge(what));
        }
        due(60, race(times(60, ".")).judge(1));
        due(12, race(times(12, "!")).judge(2));
    }

    private static void judgeNoIsAhead() {
        about("NO (ahead): there is a FAULT");
        int[] all = {-1, 0, 1, 2, 3, 4, LOW, HIGH};
        for (int what : all) {
            unchanged(NO, Asked::withFault, y -> y.judge(what));
        }
        due(NO, race(times(13, "!")).judge(2));
    }

    private static void judgeATextWithoutSigns() {
        about("FINES, minutes, sneezes, DOUBT (a text without signs)");
        SneezeRace x = race("", 1);
        x.set(4, 0);
        due(0, x.judge(0));
        due(0, x.judge(1));
        due(0, x.judge(2));
        due(NONE, x.judge(3));
    }

    private static SneezeRace judged(int d, int w, String text, int... weights) {
        SneezeRace x = race(text, weights);
        x.set(4, d);
        x.set(5, w);
        return x;
    }

    private static void doubtIsMoreThanD() {
        about("makes more than D (0 to 9; 3 at first");
        due(NONE, race("!!!").judge(3));
        due(3, race("!!!!").judge(3));
        due(0, judged(0, 1, "!").judge(3));
        due(NONE, judged(0, 20, "...").judge(3));
        due(NONE, judged(1, 1, "!").judge(3));
        due(1, judged(1, 1, "!!").judge(3));
        due(NONE, judged(9, 20, times(9, "!.")).judge(3));
        due(9, judged(9, 20, times(10, "!.")).judge(3));
        due(NONE, judged(9, 1, times(9, "!")).judge(3));
        due(9, judged(9, 1, times(12, "!")).judge(3));
    }

    private static void doubtCountsItsOwnMinute() {
        about("a sneeze's minute is how many . are ahead of it; whose minutes are its own");
        due(NONE, judged(1, 1, "!.!.!").judge(3));
        due(1, judged(1, 1, "!!").judge(3));
        due(2, judged(1, 1, "!.!!").judge(3));
        due(1, judged(1, 1, ".!!.").judge(3));
    }

    private static void doubtCountsWLess1MinutesAhead() {
        about("or one of the W less 1 minutes ahead (.. W 1 to 20; 5 at first)");
        due(3, race("!!!....!").judge(3));
        due(NONE, race("!!!.....!").judge(3));
        due(NONE, judged(1, 1, "!.!").judge(3));
        due(1, judged(1, 2, "!.!").judge(3));
        due(NONE, judged(1, 2, "!..!").judge(3));
        due(1, judged(1, 20, "!" + times(19, ".") + "!").judge(3));
        due(NONE, judged(1, 20, "!" + times(20, ".") + "!").judge(3));
        // A throw is no minute.
        due(1, judged(1, 2, "!abc.!", 1, 1, 1).judge(3));
    }

    private static void doubtCountsSneezesAheadAlone() {
        about("with all sneezes ahead of it");
        due(3, race("!.!!!").judge(3));
        due(1, judged(1, 5, "!.!.!").judge(3));
        // The first two are far apart; the last one has the second one within its minutes.
        due(2, judged(1, 3, "!....!..!").judge(3));
    }

    private static void doubtIsTheFirstSneeze() {
        about("JUDGES doubt at the first sneeze: its number (from 0 on)");
        due(3, race("!!!!!!").judge(3));
        due(4, race("!.....!!!!!!").judge(3));
        due(2, judged(1, 1, "!.!!.!!!").judge(3));
    }

    private static void doubtNumbersSneezesAlone() {
        about("its number (from 0 on)");
        due(1, judged(1, 1, "a..!b!..", 1, 1).judge(3));
        due(11, judged(2, 2, times(9, "!...") + "!!!").judge(3));
    }

    private static void pepperMinutes() {
        about("OUTSIDE: the minute 0 to as many as there are");
        due(3, race("").pepper(0));
        due(OUTSIDE, race("").pepper(1));
        due(OUTSIDE, race("").pepper(-1));
        due(3, race(times(60, ".")).pepper(0));
        due(3, race(times(60, ".")).pepper(60));
        due(OUTSIDE, race(times(60, ".")).pepper(61));
        unchanged(2, Asked::anyCourse, y -> y.pepper(3));
        unchanged(0, Asked::anyCourse, y -> y.pepper(0));
        int[] others = {-1, 4, LOW, HIGH};
        for (int minute : others) {
            unchanged(OUTSIDE, Asked::anyCourse, y -> y.pepper(minute));
        }
    }

    private static void pepperNoIsAhead() {
        about("NO (ahead): there is a FAULT");
        int[] all = {-1, 0, 3, 4, LOW, HIGH};
        for (int minute : all) {
            unchanged(NO, Asked::withFault, y -> y.pepper(minute));
        }
        // Doubts are there too, and a minute that is not there.
        due(NO, race(times(13, "!")).pepper(0));
        due(NO, race(times(13, "!")).pepper(1));
        // Doubts and a minute that is not there: OUTSIDE is a refusal, NONE an answer.
        due(OUTSIDE, race("!!!!").pepper(1));
        due(NONE, race("!!!!").pepper(0));
    }

    private static void pepperUpToD() {
        about("how many sneezes more, at most, so that JUDGES doubt none of all; NONE: they doubt now");
        int[] more = {3, 2, 1, 0, NONE, NONE};
        for (int sneezes = 0; sneezes < more.length; sneezes++) {
            due(more[sneezes], race(times(sneezes, "!")).pepper(0));
        }
        due(0, judged(0, 1, ".").pepper(0));
        due(0, judged(0, 1, ".").pepper(1));
        due(NONE, judged(0, 1, "!").pepper(0));
        due(9, judged(9, 20, "").pepper(0));
        due(1, judged(1, 1, "!.").pepper(1));
        due(0, judged(1, 1, "!.").pepper(0));
    }

    private static void pepperNoneAtAnyMinute() {
        about("NONE: they doubt now");
        for (int minute = 0; minute <= 40; minute++) {
            due(NONE, race("!!!!" + times(40, ".")).pepper(minute));
            due(NONE, race(times(40, ".") + "!!!!").pepper(minute));
        }
    }

    private static void pepperSneezesAheadCount() {
        about("how many sneezes more at a minute, with those ahead of it");
        SneezeRace x = race("!!!" + times(21, "."));
        for (int minute = 0; minute <= 21; minute++) {
            due(minute < 5 ? 0 : 3, x.pepper(minute));
        }
        x.set(5, 1);
        due(0, x.pepper(0));
        due(3, x.pepper(1));
        x.set(5, 20);
        due(0, x.pepper(19));
        due(3, x.pepper(20));
    }

    private static void pepperSneezesBehindCount() {
        about("so that JUDGES doubt none of all (those behind it, too)");
        SneezeRace x = race(times(21, ".") + "!!!");
        for (int minute = 0; minute <= 21; minute++) {
            due(minute > 16 ? 0 : 3, x.pepper(minute));
        }
        x.set(5, 20);
        due(3, x.pepper(1));
        due(0, x.pepper(2));
        // Two minutes count: 2, 3, 4, 3 and none are there now.
        SneezeRace between = judged(4, 2, "!!.!.!!!..");
        int[] more = {1, 0, 0, 1, 4};
        for (int minute = 0; minute < more.length; minute++) {
            due(more[minute], between.pepper(minute));
        }
    }

    private static void pepperWhateverTheNumberOfSneezes() {
        about("12 at most are told, whatever the number of ! is");
        due(9, judged(9, 1, times(6, "!") + "." + times(6, "!") + "..").pepper(2));
        due(3, judged(9, 1, times(6, "!") + "." + times(6, "!") + "..").pepper(1));
        due(8, judged(9, 1, times(12, "!.")).pepper(11));
        due(9, judged(9, 1, times(12, "!.")).pepper(12));
        due(1, judged(1, 1, times(12, "!.") + "a", 1).pepper(12));
        due(0, judged(1, 1, times(12, "!.")).pepper(11));
        due(NO, judged(9, 1, times(13, "!.")).pepper(12));
    }
}
