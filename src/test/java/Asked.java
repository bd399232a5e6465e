import java.util.ArrayList;
import java.util.List;

/** What the tests by hand share: races made ready, answers that are due, calls behind which nothing is changed. */
abstract class Asked {
    static final int UNKNOWN = -1, OUTSIDE = -2, STATE = -3, FULL = -4, NO = -5, NONE = -6;
    static final long GONE = -1000000000000000000L;
    static final int LOW = Integer.MIN_VALUE, HIGH = Integer.MAX_VALUE;

    /** A call of the face. */
    interface Call {
        long on(SneezeRace x);
    }

    /** What is done to a new object. */
    interface Scene {
        void on(SneezeRace x);
    }

    private static String about = "";
    private static int wrong = 0;
    private static int asked = 0;

    /** The words of the document that the next answers are about. */
    static void about(String words) {
        about = words;
    }

    static void due(long want, long got) {
        asked++;
        if (got != want) {
            wrong++;
            System.out.println(about + " (line " + lineOfTest() + "): answered " + got + ", due is " + want);
        }
    }

    private static String lineOfTest() {
        for (StackTraceElement from : new Throwable().getStackTrace()) {
            if (!from.getClassName().equals("Asked")) {
                return from.getFileName() + ":" + from.getLineNumber();
            }
        }
        return "?";
    }

    static void finish() {
        System.out.println(wrong == 0 ? asked + " answers are as due" : wrong + " answers are not as due");
        if (wrong != 0) {
            System.exit(1);
        }
    }

    // ---- races made ready

    /** A new object with weights for a, b, c .. and a text. */
    static SneezeRace race(String text, int... weights) {
        SneezeRace x = new SneezeRace();
        loadAll(x, weights);
        write(x, text);
        return x;
    }

    static void loadAll(SneezeRace x, int... weights) {
        for (int thing = 0; thing < weights.length; thing++) {
            x.load(thing, weights[thing]);
        }
    }

    static void write(SneezeRace x, String text) {
        x.wipe();
        for (char sign : text.toCharArray()) {
            x.say(sign);
        }
    }

    /** Winds that tell the height, early and late, and no leak. */
    static void steady(SneezeRace x) {
        x.set(2, 0);
        for (int height = 0; height < 5; height++) {
            x.wind(height, 0, height);
            x.wind(height, 1, height);
        }
    }

    static SneezeRace steady(String text, int... weights) {
        SneezeRace x = race(text, weights);
        steady(x);
        return x;
    }

    static String times(int many, String text) {
        return text.repeat(many);
    }

    // ---- scenes: nothing of them is as at first, but that image 1 is not kept

    static void anyCourse(SneezeRace x) {
        x.load(5, 2);
        x.wind(0, 1, 6);
        x.fell(5, 600);
        x.image(0);
        loadAll(x, 10, 5, 0, 20);
        x.wind(1, 0, -3);
        x.wind(2, 1, 7);
        int[] numbers = {2, 60, 3, 7, 2, 2};
        for (int which = 0; which < numbers.length; which++) {
            x.set(which, numbers[which]);
        }
        x.fell(0, 4);
        x.fell(3, -2);
        write(x, "!.!..");
    }

    static void withThrow(SneezeRace x) {
        anyCourse(x);
        x.say('a');
    }

    static void withFault(SneezeRace x) {
        anyCourse(x);
        x.say('c');
    }

    static void withThrowAndFault(SneezeRace x) {
        withThrow(x);
        x.say('a');
    }

    static void sevenSneezes(SneezeRace x) {
        anyCourse(x);
        write(x, "!.!!!.!!!");
    }

    static void thirteenSneezes(SneezeRace x) {
        anyCourse(x);
        write(x, times(13, "!"));
    }

    static void fullPad(SneezeRace x) {
        anyCourse(x);
        write(x, "!.!" + times(57, "."));
    }

    static void sixSights(SneezeRace x) {
        anyCourse(x);
        for (int place = 0; place < 6; place++) {
            x.fell(0, place);
        }
    }

    // ---- what a call leaves as it was

    /** The call answers so; behind it the object tells all that one tells on which it was not called. */
    static void unchanged(long want, Scene scene, Call call) {
        SneezeRace called = new SneezeRace();
        SneezeRace left = new SneezeRace();
        scene.on(called);
        scene.on(left);
        due(want, call.on(called));
        List<Long> wanted = all(left);
        List<Long> got = all(called);
        for (int i = 0; i < wanted.size(); i++) {
            due(wanted.get(i), got.get(i));
        }
    }

    /** A call on a course refuses OUTSIDE, NO, STATE in this order; what is added: 0, or GONE for fractions. */
    static void courseRefusals(long added, Call asToldThere, Call... outside) {
        Scene[] scenes = {Asked::anyCourse, Asked::withThrow, Asked::withFault, Asked::withThrowAndFault, Asked::sevenSneezes};
        for (Call call : outside) {
            for (Scene scene : scenes) {
                unchanged(added + OUTSIDE, scene, call);
            }
        }
        unchanged(added + STATE, Asked::withThrow, asToldThere);
        unchanged(added + NO, Asked::withFault, asToldThere);
        unchanged(added + NO, Asked::withThrowAndFault, asToldThere);
        unchanged(added + NO, Asked::thirteenSneezes, asToldThere);
    }

    /** All that an object can tell: first by calls that change nothing, then by those that do. */
    private static List<Long> all(SneezeRace x) {
        List<Long> told = new ArrayList<>();
        tellNumbers(x, told);
        tellRace(x, told);
        tellCourse(x, told);
        // The text, by a sign more and by all things aboard, so that letters can stand.
        told.add((long) x.say('.'));
        loadAll(x, 1, 2, 3, 4, 5, 6);
        tellRace(x, told);
        for (int n = 0; n < 2; n++) {
            told.add((long) x.restore(n));
            tellNumbers(x, told);
        }
        told.add((long) x.wipe());
        told.add((long) x.forget());
        return told;
    }

    private static void tellNumbers(SneezeRace x, List<Long> told) {
        for (int what = 0; what < 35; what++) {
            told.add((long) x.told(what));
        }
        for (int what = 0; what < 3; what++) {
            told.add((long) x.starts(what));
            told.add((long) x.year(7, 3, what));
        }
    }

    private static void tellRace(SneezeRace x, List<Long> told) {
        told.add((long) x.fault());
        for (int what = 0; what < 4; what++) {
            told.add((long) x.judge(what));
            for (int m = -1; m < 4; m++) {
                told.add((long) x.at(m, what));
            }
        }
        for (int minute = 0; minute < 3; minute++) {
            told.add((long) x.pepper(minute));
        }
    }

    private static void tellCourse(SneezeRace x, List<Long> told) {
        for (int i = -1; i < 4; i++) {
            told.add((long) x.nearest(3, i));
        }
        told.add((long) x.field(-5, 5));
        for (int what = 0; what < 2; what++) {
            told.add((long) x.take(3, what));
            told.add((long) x.stay(3, what));
            told.add((long) x.ahead(2, what));
            told.add(x.likely(0, 5, 3, what));
            told.add(x.mean(3, what));
        }
    }
}
