import java.util.Random;

/** Long runs of drawn calls, the same ones each time, whose answers are compared with the Model's. */
public final class RandomRunsTest {
    private static final int RUNS = 500, CALLS = 512;
    private static final int[] EDGES = {
        Integer.MIN_VALUE, Integer.MIN_VALUE + 1, -1000000000, -65538, -601, -600, -10, -9, -7, -6, -2, -1, 0, 1, 2, 3, 5, 6, 9, 10, 11,
        16, 20, 21, 33, 40, 41, 60, 61, 63, 64, 99, 100, 126, 127, 600, 601, 9999, 10000, 65537, 1000000000,
        Integer.MAX_VALUE - 1, Integer.MAX_VALUE};

    private final Random draw;
    private final SneezeRace real = new SneezeRace();
    private final Model model = new Model();
    private final StringBuilder story = new StringBuilder();
    private int sneezes;
    private int wrong;

    private RandomRunsTest(int seed) {
        draw = new Random(seed);
    }

    public static void main(String[] args) {
        int wrong = 0;
        for (int seed = 0; seed < RUNS && wrong < 5; seed++) {
            RandomRunsTest run = new RandomRunsTest(seed);
            run.go(seed);
            wrong += run.wrong;
        }
        System.out.println(wrong == 0 ? "all answers are the model's" : wrong + " answers are not the model's");
        if (wrong != 0) {
            System.exit(1);
        }
    }

    private void go(int seed) {
        int most = 3 + draw.nextInt(11);
        for (int i = 0; i < CALLS && wrong == 0; i++) {
            if (draw.nextInt(60) == 0) {
                for (int end = i + draw.nextInt(70); i < end && i < CALLS; i++) {
                    call(3, sign(most), 0, 0, 0);
                }
            } else {
                one(draw.nextInt(23), most);
            }
        }
        if (wrong != 0) {
            System.out.println("seed " + seed + story);
        }
    }

    private int sign(int most) {
        int kind = draw.nextInt(200);
        if (kind == 0) {
            return 33 + draw.nextInt(94);
        }
        if (kind < 6) {
            return 'a' + draw.nextInt(6);
        }
        if (kind < 50 && sneezes < most) {
            return '!';
        }
        return '.';
    }

    private int from(int least, int greatest) {
        if (draw.nextInt(60) == 0) {
            return EDGES[draw.nextInt(EDGES.length)];
        }
        return least + draw.nextInt(greatest - least + 1);
    }

    private int place() {
        int wide = draw.nextInt(3) == 0 ? 600 : 40;
        return from(-wide, wide);
    }

    private void one(int which, int most) {
        switch (which) {
            case 0: call(0, from(0, 4), from(0, 1), from(-9, 9), 0); break;
            case 1: {
                int[] greatest = {40, 99, 9, 20, 9, 20};
                int number = from(0, 5);
                call(1, number, number >= 0 && number < 6 ? from(0, greatest[number]) : 0, 0, 0);
                break;
            }
            case 2: call(2, from(0, 5), from(0, 20), 0, 0); break;
            case 3: call(3, draw.nextInt(30) == 0 ? from(33, 126) : sign(most), 0, 0, 0); break;
            case 4: if (draw.nextInt(3) == 0) call(4, 0, 0, 0, 0); break;
            case 6: call(6, from(-1, draw.nextInt(2) == 0 ? 8 : 60), from(0, 3), 0, 0); break;
            case 7: call(7, from(0, 3), 0, 0, 0); break;
            case 8: call(8, from(0, draw.nextInt(2) == 0 ? 8 : 60), 0, 0, 0); break;
            case 9: if (sneezes < 5 || draw.nextInt(8) == 0) call(9, place(), from(-1, 6), 0, 0); break;
            case 10: if (sneezes < 5 || draw.nextInt(8) == 0) stretch(10, 0, 0); break;
            case 11: call(11, place(), from(0, 1), 0, 0); break;
            case 12: call(12, place(), from(0, 1), 0, 0); break;
            case 13: if (sneezes < 9 || draw.nextInt(8) == 0) stretch(13, from(0, 10), from(0, 1)); break;
            case 14: if (sneezes < 9 || draw.nextInt(8) == 0) call(14, from(0, 10), from(0, 1), 0, 0); break;
            case 15: if (draw.nextInt(4) == 0) sight(); break;
            case 16: if (draw.nextInt(10) == 0) call(16, 0, 0, 0, 0); break;
            case 17: call(17, from(0, 2), 0, 0, 0); break;
            case 18: call(18, from(0, 63), from(0, 1), 0, 0); break;
            case 19: call(19, from(0, 9999), from(1, 60), from(0, 2), 0); break;
            case 20: call(20, from(0, 1), 0, 0, 0); break;
            case 21: if (draw.nextInt(4) == 0) call(21, from(0, 1), 0, 0, 0); break;
            case 22: call(22, from(0, 35), 0, 0, 0); break;
            default: call(5, 0, 0, 0, 0); break;
        }
    }

    /** Mostly sights that can hold: a place where the balloon really is behind some minute. */
    private void sight() {
        int here = model.at(draw.nextInt(9), 0);
        call(15, from(0, 5), here >= 0 && draw.nextInt(4) != 0 ? here - 1000 : place(), 0, 0);
    }

    private void stretch(int which, int c, int d) {
        int one = place(), other = place();
        boolean turned = one > other && draw.nextInt(8) != 0;
        call(which, turned ? other : one, turned ? one : other, c, d);
    }

    private void call(int which, int a, int b, int c, int d) {
        if (which == 3 && a == '!' && model.told(0) < 60) {
            sneezes++;
        }
        if (which == 4) {
            sneezes = 0;
        }
        long due = ofModel(which, a, b, c, d);
        long got = ofReal(which, a, b, c, d);
        story.append("\n").append(which).append("(").append(a).append(",").append(b).append(",").append(c).append(",")
                .append(d).append(") answered ").append(got).append(", due is ").append(due);
        if (got != due) {
            wrong++;
        }
    }

    private long ofReal(int which, int a, int b, int c, int d) {
        switch (which) {
            case 0: return real.wind(a, b, c);
            case 1: return real.set(a, b);
            case 2: return real.load(a, b);
            case 3: return real.say(a);
            case 4: return real.wipe();
            case 5: return real.fault();
            case 6: return real.at(a, b);
            case 7: return real.judge(a);
            case 8: return real.pepper(a);
            case 9: return real.nearest(a, b);
            case 10: return real.field(a, b);
            case 11: return real.take(a, b);
            case 12: return real.stay(a, b);
            case 13: return real.likely(a, b, c, d);
            case 14: return real.mean(a, b);
            case 15: return real.fell(a, b);
            case 16: return real.forget();
            case 17: return real.starts(a);
            case 18: return real.ahead(a, b);
            case 19: return real.year(a, b, c);
            case 20: return real.image(a);
            case 21: return real.restore(a);
            default: return real.told(a);
        }
    }

    private long ofModel(int which, int a, int b, int c, int d) {
        switch (which) {
            case 0: return model.wind(a, b, c);
            case 1: return model.set(a, b);
            case 2: return model.load(a, b);
            case 3: return model.say(a);
            case 4: return model.wipe();
            case 5: return model.fault();
            case 6: return model.at(a, b);
            case 7: return model.judge(a);
            case 8: return model.pepper(a);
            case 9: return model.nearest(a, b);
            case 10: return model.field(a, b);
            case 11: return model.take(a, b);
            case 12: return model.stay(a, b);
            case 13: return model.likely(a, b, c, d);
            case 14: return model.mean(a, b);
            case 15: return model.fell(a, b);
            case 16: return model.forget();
            case 17: return model.starts(a);
            case 18: return model.ahead(a, b);
            case 19: return model.year(a, b, c);
            case 20: return model.image(a);
            case 21: return model.restore(a);
            default: return model.told(a);
        }
    }
}
