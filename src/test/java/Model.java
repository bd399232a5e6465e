import java.math.BigInteger;
import java.util.ArrayList;
import java.util.Arrays;
import java.util.List;

/**
 * The document told a second time, as slowly and plainly as can be, to compare the program with: each question is
 * answered by writing whole race texts and flying them sign by sign.
 */
final class Model {
    static final int UNKNOWN = -1, OUTSIDE = -2, STATE = -3, FULL = -4, NO = -5, NONE = -6;
    static final long GONE = -1000000000000000000L;

    private static final class Kept {
        int turn = 10, gas = 50, leak = 1, step = 10, d = 3, w = 5;
        int[][] wind = {{0, 1, 2, 3, 4}, {0, -1, -2, -3, -4}};
        int[] weight = new int[6];
        List<int[]> sights = new ArrayList<>();

        Kept another() {
            Kept k = new Kept();
            k.turn = turn;
            k.gas = gas;
            k.leak = leak;
            k.step = step;
            k.d = d;
            k.w = w;
            k.wind = new int[][] {wind[0].clone(), wind[1].clone()};
            k.weight = weight.clone();
            k.sights = new ArrayList<>(sights);
            return k;
        }
    }

    /** What a flight tells: the balloon behind each minute, where the things fell. */
    private static final class Flight {
        final List<int[]> behind = new ArrayList<>();
        final Integer[] fell = new Integer[6];
        int[] last;
    }

    private Kept now = new Kept();
    private final Kept[] images = new Kept[2];
    private String pad = "";

    private static boolean out(int v, int least, int most) {
        return v < least || v > most;
    }

    int wind(int height, int late, int v) {
        if (out(height, 0, 4)) return UNKNOWN;
        if (out(late, 0, 1) || out(v, -9, 9)) return OUTSIDE;
        int was = now.wind[late][height];
        now.wind[late][height] = v;
        return was + 100;
    }

    int set(int which, int v) {
        int was;
        if (which == 0 && !out(v, 0, 40)) { was = now.turn; now.turn = v; return was; }
        if (which == 1 && !out(v, 0, 99)) { was = now.gas; now.gas = v; return was; }
        if (which == 2 && !out(v, 0, 9)) { was = now.leak; now.leak = v; return was; }
        if (which == 3 && !out(v, 1, 20)) { was = now.step; now.step = v; return was; }
        if (which == 4 && !out(v, 0, 9)) { was = now.d; now.d = v; return was; }
        if (which == 5 && !out(v, 1, 20)) { was = now.w; now.w = v; return was; }
        return OUTSIDE;
    }

    int load(int thing, int weight) {
        if (out(thing, 0, 5)) return UNKNOWN;
        if (out(weight, 0, 20)) return OUTSIDE;
        int was = now.weight[thing];
        now.weight[thing] = weight;
        return was;
    }

    int say(int sign) {
        if (out(sign, 33, 126)) return OUTSIDE;
        if (pad.length() == 60) return FULL;
        pad += (char) sign;
        return pad.length();
    }

    int wipe() {
        int was = pad.length();
        pad = "";
        return was;
    }

    int fault() {
        boolean[] gone = new boolean[6];
        int sneezes = 0;
        for (int i = 0; i < pad.length(); i++) {
            char c = pad.charAt(i);
            if (c == '.') continue;
            if (c == '!') {
                if (++sneezes == 13) return i;
                continue;
            }
            if (c < 'a' || c > 'f' || now.weight[c - 'a'] == 0 || gone[c - 'a']) return i;
            gone[c - 'a'] = true;
        }
        return NONE;
    }

    private Flight fly(String text, int startGas, int set, int wait) {
        Flight flight = new Flight();
        int place = 0, gas = startGas, minute = wait;
        boolean[] aboard = new boolean[6];
        for (int t = 0; t < 6; t++) aboard[t] = now.weight[t] > 0 && (set & 1 << t) != 0;
        flight.behind.add(tell(place, gas, aboard));
        for (char c : text.toCharArray()) {
            if (c == '.') {
                place += now.wind[minute < now.turn ? 0 : 1][tell(place, gas, aboard)[1]];
                gas -= now.leak;
                if (gas < 0) gas = 0;
                minute++;
                flight.behind.add(tell(place, gas, aboard));
            } else if (c != '!') {
                aboard[c - 'a'] = false;
                flight.fell[c - 'a'] = place;
            }
        }
        flight.last = tell(place, gas, aboard);
        return flight;
    }

    private int[] tell(int place, int gas, boolean[] aboard) {
        int many = 0, rest = gas;
        for (int t = 0; t < 6; t++) {
            if (aboard[t]) {
                many++;
                rest -= now.weight[t];
            }
        }
        int height = 0;
        while (height < 4 && rest >= (height + 1) * now.step) height++;
        return new int[] {place, height, gas, many};
    }

    private int[] minutesOfSneezes() {
        List<Integer> list = new ArrayList<>();
        int minute = 0;
        for (char c : pad.toCharArray()) {
            if (c == '.') minute++;
            if (c == '!') list.add(minute);
        }
        int[] row = new int[list.size()];
        for (int i = 0; i < row.length; i++) row[i] = list.get(i);
        return row;
    }

    private int doubt(int[] sorted) {
        for (int i = 0; i < sorted.length; i++) {
            int many = 1;
            for (int j = 0; j < i; j++) {
                for (int back = 0; back < now.w; back++) if (sorted[j] == sorted[i] - back) many++;
            }
            if (many > now.d) return i;
        }
        return NONE;
    }

    private int count(char sign) {
        int many = 0;
        for (char c : pad.toCharArray()) if (c == sign) many++;
        return many;
    }

    int at(int m, int what) {
        if (fault() != NONE) return NO;
        if (out(m, -1, count('.')) || out(what, 0, 3)) return OUTSIDE;
        Flight flight = fly(pad, now.gas, 63, 0);
        int[] told = m == -1 ? flight.last : flight.behind.get(m);
        return told[what] + (what == 0 ? 1000 : 0);
    }

    int judge(int what) {
        if (fault() != NONE) return NO;
        if (what == 0) {
            int many = 0;
            for (int i = 0; i < pad.length(); i++) {
                if (pad.charAt(i) >= 'a' && (i == 0 || pad.charAt(i - 1) != '!')) many++;
            }
            return many;
        }
        if (what == 1) return count('.');
        if (what == 2) return count('!');
        if (what == 3) return doubt(minutesOfSneezes());
        return OUTSIDE;
    }

    int pepper(int minute) {
        if (fault() != NONE) return NO;
        if (out(minute, 0, count('.'))) return OUTSIDE;
        int[] row = minutesOfSneezes();
        int answer = NONE;
        for (int more = 0; more <= 12; more++) {
            if (doubt(row) != NONE) return answer;
            answer = more;
            row = Arrays.copyOf(row, row.length + 1);
            row[row.length - 1] = minute;
            Arrays.sort(row);
        }
        return answer;
    }

    private int refusal(boolean outside) {
        if (outside) return OUTSIDE;
        if (fault() != NONE) return NO;
        for (char c : pad.toCharArray()) if (c >= 'a') return STATE;
        return 0;
    }

    /** All ways to throw, as rows of letters; g stands for none, so that rows stand in the order of the document. */
    private void allWays(String way, List<String> found) {
        if (way.length() == count('!')) {
            found.add(way);
            return;
        }
        for (char c = 'a'; c <= 'f'; c++) {
            if (now.weight[c - 'a'] > 0 && way.indexOf(c) < 0) allWays(way + c, found);
        }
        allWays(way + "g", found);
    }

    private int end(String way) {
        StringBuilder text = new StringBuilder();
        int sneezes = 0;
        for (char c : pad.toCharArray()) {
            text.append(c);
            if (c == '!') {
                char thrown = way.charAt(sneezes++);
                if (thrown != 'g') text.append(thrown);
            }
        }
        return fly(text.toString(), now.gas, 63, 0).last[0];
    }

    int nearest(int goal, int i) {
        int refusal = refusal(out(goal, -600, 600));
        if (refusal != 0) return refusal;
        if (count('!') > 6) return FULL;
        List<String> found = new ArrayList<>();
        allWays("", found);
        String best = null;
        int bestOff = 0;
        for (String way : found) {
            int off = Math.abs(end(way) - goal);
            boolean better = best == null || off < bestOff;
            if (best != null && off == bestOff) {
                int fewer = best.replace("g", "").length() - way.replace("g", "").length();
                better = fewer > 0 || fewer == 0 && way.compareTo(best) < 0;
            }
            if (better) {
                best = way;
                bestOff = off;
            }
        }
        if (i == -1) return bestOff;
        if (i < -1 || i >= best.length() || best.charAt(i) == 'g') return NONE;
        return best.charAt(i) - 'a';
    }

    int field(int from, int to) {
        int refusal = refusal(out(from, -600, 600) || out(to, -600, 600) || to < from);
        if (refusal != 0) return refusal;
        if (count('!') > 6) return FULL;
        List<String> found = new ArrayList<>();
        allWays("", found);
        int many = 0;
        for (String way : found) if (!out(end(way), from, to)) many++;
        return many;
    }

    int take(int goal, int what) {
        int refusal = refusal(out(goal, -600, 600) || out(what, 0, 1));
        if (refusal != 0) return refusal;
        int best = -1, bestOff = 0;
        for (int set = 0; set < 64; set++) {
            boolean allWeigh = true;
            for (int t = 0; t < 6; t++) if ((set & 1 << t) != 0 && now.weight[t] == 0) allWeigh = false;
            int off = Math.abs(fly(pad, now.gas, set, 0).last[0] - goal);
            if (allWeigh && (best < 0 || off < bestOff)) {
                best = set;
                bestOff = off;
            }
        }
        return what == 0 ? best : bestOff;
    }

    int stay(int goal, int what) {
        int refusal = refusal(out(goal, -600, 600) || out(what, 0, 1));
        if (refusal != 0) return refusal;
        int best = -1, bestOff = 0;
        for (int wait = 0; wait <= 20; wait++) {
            int off = Math.abs(fly(pad, now.gas, 63, wait).last[0] - goal);
            if (best < 0 || off < bestOff) {
                best = wait;
                bestOff = off;
            }
        }
        return what == 0 ? best : bestOff;
    }

    private char heaviest(String thrown) {
        char best = 'g';
        for (char c = 'f'; c >= 'a'; c--) {
            if (now.weight[c - 'a'] == 0 || thrown.indexOf(c) >= 0) continue;
            if (best == 'g' || now.weight[c - 'a'] >= now.weight[best - 'a']) best = c;
        }
        return best;
    }

    /** Goes through all luck; at each end adds its weight to sums[0] if it lies in the stretch, times the place to [1]. */
    private void allLuck(String way, BigInteger weight, int c, int from, int to, BigInteger[] sums) {
        if (way.length() == count('!')) {
            int place = end(way);
            if (!out(place, from, to)) sums[0] = sums[0].add(weight);
            sums[1] = sums[1].add(weight.multiply(BigInteger.valueOf(place + 1000)));
            return;
        }
        allLuck(way + heaviest(way), weight.multiply(BigInteger.valueOf(c)), c, from, to, sums);
        allLuck(way + 'g', weight.multiply(BigInteger.valueOf(10 - c)), c, from, to, sums);
    }

    private long part(BigInteger upper, int part) {
        BigInteger lower = BigInteger.TEN.pow(count('!'));
        BigInteger divisor = upper.gcd(lower);
        return (part == 0 ? upper : lower).divide(divisor).longValueExact();
    }

    long likely(int from, int to, int c, int part) {
        int refusal = refusal(out(from, -600, 600) || out(to, -600, 600) || to < from || out(c, 0, 10) || out(part, 0, 1));
        if (refusal != 0) return GONE + refusal;
        BigInteger[] sums = {BigInteger.ZERO, BigInteger.ZERO};
        allLuck("", BigInteger.ONE, c, from, to, sums);
        return part(sums[0], part);
    }

    long mean(int c, int part) {
        int refusal = refusal(out(c, 0, 10) || out(part, 0, 1));
        if (refusal != 0) return GONE + refusal;
        BigInteger[] sums = {BigInteger.ZERO, BigInteger.ZERO};
        allLuck("", BigInteger.ONE, c, 0, 0, sums);
        return part(sums[1], part);
    }

    int fell(int thing, int place) {
        if (out(thing, 0, 5)) return UNKNOWN;
        if (out(place, -600, 600)) return OUTSIDE;
        if (now.sights.size() == 6) return FULL;
        now.sights.add(new int[] {thing, place});
        return now.sights.size();
    }

    int forget() {
        int was = now.sights.size();
        now.sights.clear();
        return was;
    }

    int starts(int what) {
        if (out(what, 0, 2)) return OUTSIDE;
        if (fault() != NONE) return NO;
        List<Integer> held = new ArrayList<>();
        for (int gas = 0; gas < 100; gas++) {
            Flight flight = fly(pad, gas, 63, 0);
            boolean hold = true;
            for (int[] sight : now.sights) {
                hold &= flight.fell[sight[0]] != null && flight.fell[sight[0]] == sight[1];
            }
            if (hold) held.add(gas);
        }
        if (what == 0) return held.size();
        if (held.isEmpty()) return NONE;
        return held.get(what == 1 ? 0 : held.size() - 1);
    }

    int ahead(int set, int what) {
        int refusal = refusal(out(set, 0, 63) || out(what, 0, 1));
        if (refusal != 0) return refusal;
        Flight first = fly(pad, now.gas, 63, 0), second = fly(pad, now.gas, set, 0);
        int many = 0;
        for (int m = 1; m < first.behind.size(); m++) {
            int by = first.behind.get(m)[0] - second.behind.get(m)[0];
            if (what == 0 ? by > 0 : by < 0) many++;
        }
        return many;
    }

    int year(int seed, int n, int what) {
        if (out(seed, 0, 9999) || out(n, 1, 60) || out(what, 0, 2)) return OUTSIDE;
        long x = seed;
        List<Integer> ends = new ArrayList<>();
        for (int race = 0; race < n; race++) {
            String text = "", thrown = "";
            for (int minute = 0; minute < 10; minute++) {
                x = (75 * x + 74) % 65537;
                if (x % 4 == 0 && heaviest(thrown) != 'g') {
                    text += heaviest(thrown);
                    thrown += heaviest(thrown);
                }
                text += ".";
            }
            ends.add(fly(text, now.gas, 63, 0).last[0]);
        }
        if (what == 0) return ends.stream().mapToInt(e -> e).sum() + 100000;
        if (what == 1) return ends.stream().mapToInt(e -> e).min().getAsInt() + 1000;
        return ends.stream().mapToInt(e -> e).max().getAsInt() + 1000;
    }

    int image(int n) {
        if (out(n, 0, 1)) return OUTSIDE;
        images[n] = now.another();
        return 1;
    }

    int restore(int n) {
        if (out(n, 0, 1)) return OUTSIDE;
        if (images[n] == null) return STATE;
        now = images[n].another();
        return 1;
    }

    int told(int what) {
        switch (what) {
            case 0: return pad.length();
            case 1: return now.turn;
            case 2: return now.gas;
            case 3: return now.leak;
            case 4: return now.step;
            case 5: return now.d;
            case 6: return now.w;
            case 7: return now.sights.size();
            default: break;
        }
        if (!out(what, 10, 15)) return now.weight[what - 10];
        if (!out(what, 20, 24)) return now.wind[0][what - 20] + 100;
        if (!out(what, 30, 34)) return now.wind[1][what - 30] + 100;
        return OUTSIDE;
    }
}
