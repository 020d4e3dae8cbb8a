import java.util.ArrayList;
import java.util.Arrays;
import java.util.HashMap;
import java.util.List;
import java.util.Map;
import java.util.Random;

/** Promises 17 to 35: what is in thought, against trying all out, and at its edges. */
final class ThoughtTest {
    private static final int NONE = GravyBoats.NONE;
    private static final Random RANDOM = new Random(5);
    private static final Check CHECK = new Check("ThoughtTest");

    public static void main(String[] args) {
        for (int i = 0; i < 200; i++) {
            hands();
            letters();
            stained();
            convoy();
            spoons();
            ways();
            cloth();
            report();
            stowed(i < 40 ? 9 : 6);
            game();
        }
        candles();
        treaty();
        lettersEdges();
        fullLetters();
        convoyEdges();
        flagEdges();
        givesEdges();
        clothEdges();
        reportEdges();
        jarEdges();
        otherEdges();
        CHECK.close();
    }

    private static int below(int n) {
        return RANDOM.nextInt(n);
    }

    // ---- promise 17

    private static void hands() {
        GravyBoats x = new GravyBoats();
        int[] steady = new int[12];
        for (int i = 0; i < 12; i++) {
            steady[i] = below(10);
            x.set(0, i, steady[i]);
        }
        StringBuilder text = new StringBuilder();
        for (int i = below(5); i > 0; i--) {
            int a = below(12);
            int b = below(12);
            text.append(Math.abs(a - b) > 1 ? "seat " + a + " to " + b + ";" : "");
        }
        Check.tell(x, 3, text.toString());
        int from = below(12);
        int to = below(12);
        int[] best = {99, -1};
        walk(x, steady, from, to, 1 << from, 0, 0, best);
        CHECK.due("hands 0 " + text, x.hands(from, to, 0), best[0]);
        CHECK.due("hands 1 " + text, x.hands(from, to, 1), best[1]);
    }

    private static void walk(GravyBoats x, int[] steady, int at, int to, int seen, int passes, int sum, int[] best) {
        if (at == to && (passes < best[0] || passes == best[0] && sum > best[1])) {
            best[0] = passes;
            best[1] = sum;
        }
        int next = x.seat(at, 5) & ~seen;
        for (int i = 0; i < 12 && passes < best[0]; i++) {
            if ((next >> i & 1) == 1) {
                walk(x, steady, i, to, seen | 1 << i, passes + 1, sum + steady[i], best);
            }
        }
    }

    // ---- promises 18, 19

    private static void letters() {
        GravyBoats x = new GravyBoats();
        List<Integer> a = new ArrayList<>();
        List<Integer> b = new ArrayList<>();
        int words = 2 + below(8);
        for (int i = below(9); i > 0; i--) {
            a.add(below(words));
            CHECK.due("letter 0", x.letter(0, a.get(a.size() - 1)), a.size());
        }
        for (int i = below(9); i > 0; i--) {
            b.add(below(words));
            CHECK.due("letter 1", x.letter(1, b.get(b.size() - 1)), b.size());
        }
        CHECK.due("SAME " + a + b, x.both(0), same(a, b));
        CHECK.due("CHANGES " + a + b, x.both(1), changes(a, b));
        CHECK.due("JOINT " + a + b, x.both(2), joint(a, b));
    }

    private static List<Integer> rest(List<Integer> a) {
        return a.subList(1, a.size());
    }

    private static int same(List<Integer> a, List<Integer> b) {
        int most = 0;
        for (int set = 0; set < 1 << a.size(); set++) {
            int at = 0;
            boolean in = true;
            for (int i = 0; i < a.size(); i++) {
                if ((set >> i & 1) == 1) {
                    while (at < b.size() && !b.get(at).equals(a.get(i))) {
                        at++;
                    }
                    in &= at++ < b.size();
                }
            }
            most = in ? Math.max(most, Integer.bitCount(set)) : most;
        }
        return most;
    }

    private static int changes(List<Integer> a, List<Integer> b) {
        if (a.isEmpty() || b.isEmpty()) {
            return a.size() + b.size();
        }
        if (a.get(0).equals(b.get(0))) {
            return changes(rest(a), rest(b));
        }
        return 1 + Math.min(changes(rest(a), rest(b)), Math.min(changes(rest(a), b), changes(a, rest(b))));
    }

    private static int joint(List<Integer> a, List<Integer> b) {
        if (a.isEmpty() || b.isEmpty()) {
            return a.size() + b.size();
        }
        if (a.get(0).equals(b.get(0))) {
            return 1 + joint(rest(a), rest(b));
        }
        return 1 + Math.min(joint(rest(a), b), joint(a, rest(b)));
    }

    private static void lettersEdges() {
        GravyBoats x = new GravyBoats();
        for (int i = 1; i <= 12; i++) {
            CHECK.due("letter " + i, x.letter(1, 9), i);
        }
        CHECK.due("the thirteenth", x.letter(1, 9), NONE);
        CHECK.due("the other end", x.letter(0, 0), 1);
        CHECK.due("word 10", x.letter(0, 10), NONE);
        CHECK.due("word -2", x.letter(0, -2), NONE);
        CHECK.due("end 2", x.letter(2, 1), NONE);
        CHECK.due("end -1", x.letter(-1, NONE), NONE);
        CHECK.due("end 2, none", x.letter(2, NONE), NONE);
        CHECK.due("SAME", x.both(0), 0);
        CHECK.due("CHANGES", x.both(1), 12);
        CHECK.due("JOINT", x.both(2), 13);
        CHECK.due("both(3)", x.both(3), NONE);
        CHECK.due("both(-1)", x.both(-1), NONE);
        CHECK.due("none of end 1", x.letter(1, NONE), 0);
        CHECK.due("JOINT then", x.both(2), 1);
        CHECK.due("again", x.letter(1, 0), 1);
        CHECK.due("SAME then", x.both(0), 1);
    }

    private static void fullLetters() {
        GravyBoats x = new GravyBoats();
        for (int i = 0; i < 12; i++) {
            x.letter(0, i % 10);
            x.letter(1, i % 10);
        }
        CHECK.due("SAME of two alike", x.both(0), 12);
        CHECK.due("CHANGES of two alike", x.both(1), 0);
        CHECK.due("JOINT of two alike", x.both(2), 12);
        x.letter(0, NONE);
        for (int i = 0; i < 12; i++) {
            x.letter(0, (i + 1) % 10);
        }
        CHECK.due("SAME, one word later", x.both(0), 11);
        CHECK.due("CHANGES, one word later", x.both(1), 2);
        CHECK.due("JOINT, one word later", x.both(2), 13);
        x.letter(1, NONE);
        for (int i = 0; i < 12; i++) {
            x.letter(1, 0);
        }
        CHECK.due("SAME, one word alike", x.both(0), 1);
        CHECK.due("CHANGES, one word alike", x.both(1), 11);
        CHECK.due("JOINT, one word alike", x.both(2), 23);
    }

    // ---- promise 20

    private static void candles() {
        for (int r = 0; r < 12; r++) {
            for (int set = 0; set < 4096; set += 1 + below(40)) {
                GravyBoats x = new GravyBoats();
                int lit = lit(set, r);
                int best = -1;
                for (int more = 0; more < 4096; more++) {
                    boolean all = (lit | lit(more, r)) == 4095;
                    if (all && (best < 0 || Integer.bitCount(more) < Integer.bitCount(best))) {
                        best = more;
                    }
                }
                CHECK.due("candles " + set + " " + r + " 0", x.candles(set, r, 0), Integer.bitCount(best));
                CHECK.due("candles " + set + " " + r + " 1", x.candles(set, r, 1), best);
            }
        }
        GravyBoats x = new GravyBoats();
        CHECK.due("set -1", x.candles(-1, 1, 0), NONE);
        CHECK.due("set 4096", x.candles(4096, 1, 0), NONE);
        CHECK.due("r -1", x.candles(0, -1, 0), NONE);
        CHECK.due("r 12", x.candles(0, 12, 0), NONE);
        CHECK.due("what 2", x.candles(0, 1, 2), NONE);
        CHECK.due("what -1", x.candles(0, 1, -1), NONE);
    }

    private static int lit(int set, int r) {
        int lit = 0;
        for (int i = 0; i <= r; i++) {
            lit |= set << i | set >> i;
        }
        return lit & 4095;
    }

    // ---- promise 21

    private static void stained() {
        GravyBoats x = new GravyBoats();
        int[] stain = new int[12];
        for (int i = 0; i < 12; i++) {
            stain[i] = below(2) * below(5);
            x.set(4, i, stain[i]);
        }
        int count = 0, greatest = -1, first = -1;
        for (int i = 0; i < 12; i++) {
            if (stain[i] > 0 && (i == 0 || stain[i - 1] == 0)) {
                count++;
                int sum = 0;
                for (int j = i; j < 12 && stain[j] > 0; j++) {
                    sum += stain[j];
                }
                if (sum > greatest) {
                    greatest = sum;
                    first = i;
                }
            }
        }
        CHECK.due("stained 0", x.stained(0), count);
        CHECK.due("stained 1", x.stained(1), greatest);
        CHECK.due("stained 2", x.stained(2), first);
    }

    // ---- promises 22, 23

    private static void convoy() {
        GravyBoats x = new GravyBoats();
        List<int[]> boats = new ArrayList<>();
        for (int i = below(9); i > 0; i--) {
            int seat = below(4) == 0 ? 99 - below(3) : below(30);
            int head = below(2);
            boolean told = boats.stream().anyMatch(b -> b[0] == seat);
            if (!told) {
                boats.add(new int[] {seat, head});
            }
            CHECK.due("convoy", x.convoy(seat, head), told ? NONE : boats.size());
        }
        int couples = 0, first = -1;
        for (int i = 0; i < boats.size(); i++) {
            for (int j = 0; j < i; j++) {
                int[] a = boats.get(i), b = boats.get(j);
                for (int half = 1; half < 300; half++) {
                    int at = 2 * a[0] + (a[1] == 1 ? half : -half);
                    int bt = 2 * b[0] + (b[1] == 1 ? half : -half);
                    if (at == bt) {
                        couples++;
                        first = first < 0 ? half : Math.min(first, half);
                    }
                }
            }
        }
        CHECK.due("meets 0", x.meets(0), couples);
        CHECK.due("meets 1", x.meets(1), first);
    }

    private static void convoyEdges() {
        GravyBoats x = new GravyBoats();
        CHECK.due("seat -2", x.convoy(-2, 1), NONE);
        CHECK.due("seat 100", x.convoy(100, 1), NONE);
        CHECK.due("head 2", x.convoy(1, 2), NONE);
        CHECK.due("head -1", x.convoy(1, -1), NONE);
        for (int i = 0; i < 8; i++) {
            CHECK.due("convoy", x.convoy(i, i < 4 ? 1 : 0), i + 1);
        }
        CHECK.due("the ninth", x.convoy(99, 1), NONE);
        CHECK.due("meets 0", x.meets(0), 16);
        CHECK.due("meets 1", x.meets(1), 1);
        CHECK.due("meets 2", x.meets(2), NONE);
        CHECK.due("meets -1", x.meets(-1), NONE);
        CHECK.due("none", x.convoy(NONE, 7), 0);
        CHECK.due("meets 0 then", x.meets(0), 0);
        CHECK.due("seat 0 again", x.convoy(0, 1), 1);
        CHECK.due("seat 99", x.convoy(99, 0), 2);
        CHECK.due("far apart", x.meets(1), 99);
    }

    // ---- promises 24, 25

    private static void spoons() {
        GravyBoats x = new GravyBoats();
        List<Integer> flags = new ArrayList<>();
        for (int i = below(11); i > 0; i--) {
            flags.add(below(4096));
            CHECK.due("flag", x.flag(flags.get(flags.size() - 1)), flags.size());
        }
        int flag = below(4096);
        int said = 0, wrong = 0, nearest = -1, fewest = 99;
        for (int row = 0; row < 4; row++) {
            int up = (flag >> 3 * row & 1) + (flag >> 3 * row + 1 & 1) + (flag >> 3 * row + 2 & 1);
            said += up > 1 ? 1 << row : 0;
            wrong += up == 1 || up == 2 ? 1 : 0;
        }
        for (int i = 0; i < flags.size(); i++) {
            int unlike = Integer.bitCount(flags.get(i) ^ flag);
            if (unlike < fewest) {
                fewest = unlike;
                nearest = i;
            }
        }
        CHECK.due("SAID " + flag, x.spoons(flag, 0), said);
        CHECK.due("WRONG " + flag, x.spoons(flag, 1), wrong);
        CHECK.due("NEAREST " + flag, x.spoons(flag, 2), nearest);
    }

    private static void flagEdges() {
        GravyBoats x = new GravyBoats();
        CHECK.due("flag -2", x.flag(-2), NONE);
        CHECK.due("flag 4096", x.flag(4096), NONE);
        for (int i = 1; i <= 10; i++) {
            CHECK.due("flag", x.flag(4095), i);
        }
        CHECK.due("the eleventh", x.flag(0), NONE);
        CHECK.due("the first of several", x.spoons(0, 2), 0);
        CHECK.due("none", x.flag(NONE), 0);
        CHECK.due("no flag", x.spoons(0, 2), NONE);
        CHECK.due("flag 0", x.flag(0), 1);
        CHECK.due("far but nearest", x.spoons(4095, 2), 0);
        CHECK.due("spoons(-1)", x.spoons(-1, 0), NONE);
        CHECK.due("spoons(4096)", x.spoons(4096, 0), NONE);
        CHECK.due("what 3", x.spoons(0, 3), NONE);
        CHECK.due("what -1", x.spoons(0, -1), NONE);
    }

    // ---- promise 26

    private static void treaty() {
        for (int n = 1; n <= 40; n++) {
            GravyBoats x = new GravyBoats();
            for (int k = 1; k <= 9; k++) {
                CHECK.due("treaty " + n + " " + k + " 0", x.treaty(n, k, 0), lumps(n, k, false));
                CHECK.due("treaty " + n + " " + k + " 1", x.treaty(n, k, 1), lumps(n, k, true));
            }
        }
        GravyBoats x = new GravyBoats();
        CHECK.due("n 0", x.treaty(0, 1, 0), NONE);
        CHECK.due("n 41", x.treaty(41, 1, 0), NONE);
        CHECK.due("k 0", x.treaty(1, 0, 0), NONE);
        CHECK.due("k 10", x.treaty(1, 10, 0), NONE);
        CHECK.due("what 2", x.treaty(1, 1, 2), NONE);
        CHECK.due("what -1", x.treaty(1, 1, -1), NONE);
    }

    private static int lumps(int n, int k, boolean unlike) {
        if (n == 0) {
            return 1;
        }
        int ways = 0;
        for (int lump = Math.min(n, k); lump >= 1; lump--) {
            ways += lumps(n - lump, unlike ? lump - 1 : lump, unlike);
        }
        return ways;
    }

    // ---- promises 27, 28

    private static void ways() {
        GravyBoats x = new GravyBoats();
        boolean[][] to = new boolean[8][8];
        int told = 0;
        for (int i = below(17); i > 0; i--) {
            int a = below(8);
            int b = below(8);
            CHECK.due("gives", x.gives(a, b), a == b ? NONE : ++told);
            to[a][b] |= a != b;
        }
        int first = 0, rounds = 0;
        for (int i = 0; i < 8; i++) {
            boolean gives = false, given = false;
            for (int j = 0; j < 8; j++) {
                gives |= to[i][j];
                given |= to[j][i];
            }
            first |= given && !gives ? 1 << i : 0;
            rounds |= comesBack(to, i, i, new boolean[8]) ? 1 << i : 0;
        }
        CHECK.due("FIRST", x.way(0), first);
        CHECK.due("ROUNDS", x.way(1), rounds);
    }

    private static boolean comesBack(boolean[][] to, int from, int goal, boolean[] seen) {
        for (int i = 0; i < 8; i++) {
            if (to[from][i] && i == goal) {
                return true;
            }
            if (to[from][i] && !seen[i]) {
                seen[i] = true;
                if (comesBack(to, i, goal, seen)) {
                    return true;
                }
            }
        }
        return false;
    }

    private static void givesEdges() {
        GravyBoats x = new GravyBoats();
        CHECK.due("alike", x.gives(3, 3), NONE);
        CHECK.due("a 8", x.gives(8, 3), NONE);
        CHECK.due("b 8", x.gives(3, 8), NONE);
        CHECK.due("b -1", x.gives(3, -1), NONE);
        CHECK.due("a -2", x.gives(-2, 3), NONE);
        for (int i = 1; i <= 16; i++) {
            CHECK.due("gives " + i, x.gives((i - 1) % 8, i % 8), i);
        }
        CHECK.due("the seventeenth", x.gives(0, 1), NONE);
        CHECK.due("FIRST of a round", x.way(0), 0);
        CHECK.due("all eight in one round", x.way(1), 255);
        CHECK.due("way(2)", x.way(2), NONE);
        CHECK.due("way(-1)", x.way(-1), NONE);
        CHECK.due("nothing", x.gives(NONE, 99), 0);
        CHECK.due("ROUNDS then", x.way(1), 0);
    }

    // ---- promises 29, 30

    private static void cloth() {
        GravyBoats x = new GravyBoats();
        List<int[]> spans = new ArrayList<>();
        for (int i = below(10); i > 0; i--) {
            int from = below(100);
            int until = Math.min(100, from + 1 + below(below(2) == 0 ? 60 : 9));
            spans.add(new int[] {from, until});
            CHECK.due("cloth", x.cloth(from, until), spans.size());
        }
        int n = 1 + below(99);
        int fewest = 99;
        for (int up = 0; up < 1 << spans.size(); up++) {
            if (Integer.bitCount(up) < fewest && hour(spans, up, n) >= 0) {
                fewest = Integer.bitCount(up);
            }
        }
        CHECK.due("free " + n + " 0", x.free(n, 0), hour(spans, 0, n));
        CHECK.due("free " + n + " 1", x.free(n, 1), fewest);
    }

    private static int hour(List<int[]> spans, int givenUp, int n) {
        boolean[] taken = new boolean[100];
        for (int i = 0; i < spans.size(); i++) {
            if ((givenUp >> i & 1) == 0) {
                Arrays.fill(taken, spans.get(i)[0], spans.get(i)[1], true);
            }
        }
        int run = 0;
        for (int h = 0; h < 100; h++) {
            run = taken[h] ? 0 : run + 1;
            if (run == n) {
                return h - n + 1;
            }
        }
        return -1;
    }

    private static void clothEdges() {
        GravyBoats x = new GravyBoats();
        CHECK.due("from -2", x.cloth(-2, 5), NONE);
        CHECK.due("from 100", x.cloth(100, 100), NONE);
        CHECK.due("until not above", x.cloth(7, 7), NONE);
        CHECK.due("until 101", x.cloth(7, 101), NONE);
        CHECK.due("far beyond", x.cloth(Integer.MAX_VALUE, Integer.MIN_VALUE), NONE);
        for (int i = 1; i <= 9; i++) {
            CHECK.due("cloth", x.cloth(0, 100), i);
        }
        CHECK.due("the tenth", x.cloth(0, 100), NONE);
        CHECK.due("none free", x.free(1, 0), NONE);
        CHECK.due("all are given up", x.free(1, 1), 9);
        CHECK.due("nothing", x.cloth(NONE, 5), 0);
        CHECK.due("the last hour", x.cloth(0, 99), 1);
        CHECK.due("is free", x.free(1, 0), 99);
        CHECK.due("two are not", x.free(2, 0), NONE);
        CHECK.due("n 0", x.free(0, 0), NONE);
        CHECK.due("n 100", x.free(100, 1), NONE);
        CHECK.due("what 2", x.free(5, 2), NONE);
        CHECK.due("what -1", x.free(5, -1), NONE);
    }

    // ---- promises 31, 32

    private static void report() {
        GravyBoats x = new GravyBoats();
        int[] saying = new int[100];
        int told = 0;
        for (int i = below(9); i > 0; i--) {
            int a = below(100);
            int b = a + below(100 - a);
            CHECK.due("report", x.report(a, b), ++told);
            for (int v = a; v <= b; v++) {
                saying[v]++;
            }
        }
        int most = Arrays.stream(saying).max().getAsInt();
        int number = 0;
        while (saying[number] != most) {
            number++;
        }
        CHECK.due("sprouts 0", x.sprouts(0), number);
        CHECK.due("sprouts 1", x.sprouts(1), most);
    }

    private static void reportEdges() {
        GravyBoats x = new GravyBoats();
        CHECK.due("a above b", x.report(6, 5), NONE);
        CHECK.due("a -2", x.report(-2, 5), NONE);
        CHECK.due("b 100", x.report(5, 100), NONE);
        for (int i = 1; i <= 8; i++) {
            CHECK.due("report", x.report(99, 99), i);
        }
        CHECK.due("the ninth", x.report(0, 99), NONE);
        CHECK.due("number", x.sprouts(0), 99);
        CHECK.due("by how many", x.sprouts(1), 8);
        CHECK.due("what 2", x.sprouts(2), NONE);
        CHECK.due("what -1", x.sprouts(-1), NONE);
        CHECK.due("nothing", x.report(NONE, 0), 0);
        CHECK.due("nobody", x.sprouts(0), 0);
        CHECK.due("nobody", x.sprouts(1), 0);
        CHECK.due("from none on", x.report(0, 5), 1);
        CHECK.due("the least is 0", x.sprouts(0), 0);
        CHECK.due("one says so", x.sprouts(1), 1);
    }

    // ---- promises 33, 34

    private static void stowed(int most) {
        GravyBoats x = new GravyBoats();
        int n = below(most + 1);
        int[] weight = new int[n];
        int[] worth = new int[n];
        int step = below(3) == 0 ? 10 : 1;
        for (int i = 0; i < n; i++) {
            weight[i] = step * (1 + below(30 / step));
            worth[i] = step * below(99 / step);
            CHECK.due("jar", x.jar(weight[i], worth[i]), i + 1);
        }
        int c = below(100);
        int d = below(below(2) == 0 ? 100 : 20);
        int bestWorth = -1, bestBoth = 0, bestFirst = 0;
        for (int first = 0; first < 1 << n; first++) {
            for (int second = 0; second < 1 << n; second++) {
                if ((first & second) != 0 || sum(weight, first) > c || sum(weight, second) > d) {
                    continue;
                }
                int v = sum(worth, first | second);
                int both = first | second;
                if (v > bestWorth || v == bestWorth && (both < bestBoth || both == bestBoth && first < bestFirst)) {
                    bestWorth = v;
                    bestBoth = both;
                    bestFirst = first;
                }
            }
        }
        CHECK.due("stowed 0", x.stowed(c, d, 0), bestWorth);
        CHECK.due("stowed 1", x.stowed(c, d, 1), bestFirst);
    }

    private static int sum(int[] of, int set) {
        int sum = 0;
        for (int i = 0; i < of.length; i++) {
            sum += (set >> i & 1) == 1 ? of[i] : 0;
        }
        return sum;
    }

    private static void jarEdges() {
        GravyBoats x = new GravyBoats();
        CHECK.due("weight 0", x.jar(0, 5), NONE);
        CHECK.due("weight 31", x.jar(31, 5), NONE);
        CHECK.due("weight -2", x.jar(-2, 5), NONE);
        CHECK.due("worth -1", x.jar(5, -1), NONE);
        CHECK.due("worth 100", x.jar(5, 100), NONE);
        for (int i = 1; i <= 9; i++) {
            CHECK.due("jar", x.jar(11, 99), i);
        }
        CHECK.due("the tenth", x.jar(1, 1), NONE);
        CHECK.due("all", x.stowed(99, 0, 0), 891);
        CHECK.due("all in the first", x.stowed(99, 0, 1), 511);
        CHECK.due("all in the second", x.stowed(99, 99, 1), 0);
        CHECK.due("c -1", x.stowed(-1, 0, 0), NONE);
        CHECK.due("c 100", x.stowed(100, 0, 0), NONE);
        CHECK.due("d -1", x.stowed(0, -1, 0), NONE);
        CHECK.due("d 100", x.stowed(0, 100, 0), NONE);
        CHECK.due("what 2", x.stowed(0, 0, 2), NONE);
        CHECK.due("what -1", x.stowed(0, 0, -1), NONE);
        CHECK.due("none", x.jar(NONE, 5), 0);
        CHECK.due("nothing", x.stowed(99, 99, 0), 0);
    }

    // ---- promise 35

    private static void game() {
        GravyBoats x = new GravyBoats();
        int[] stain = new int[4];
        int[] seat = {below(3), 3 + below(3), 6 + below(3), 9 + below(3)};
        for (int i = 0; i < 4; i++) {
            stain[i] = below(7);
            x.set(4, seat[i], stain[i]);
        }
        Map<String, Boolean> known = new HashMap<>();
        int who = -1, much = -1;
        for (int i = 0; i < 4 && who < 0; i++) {
            for (int take : new int[] {1, stain[i]}) {
                if (who < 0 && take >= 1 && take <= stain[i] && !wins(less(stain, i, take), known)) {
                    who = seat[i];
                    much = take;
                }
            }
        }
        CHECK.due("game 0 " + Arrays.toString(stain), x.game(0), who);
        CHECK.due("game 1 " + Arrays.toString(stain), x.game(1), much);
    }

    private static int[] less(int[] stain, int i, int take) {
        int[] then = stain.clone();
        then[i] -= take;
        return then;
    }

    private static boolean wins(int[] stain, Map<String, Boolean> known) {
        String key = Arrays.toString(stain);
        if (known.containsKey(key)) {
            return known.get(key);
        }
        boolean wins = false;
        for (int i = 0; i < stain.length; i++) {
            if (stain[i] > 0) {
                wins |= !wins(less(stain, i, 1), known) || !wins(less(stain, i, stain[i]), known);
            }
        }
        known.put(key, wins);
        return wins;
    }

    // ---- what is left

    private static void otherEdges() {
        GravyBoats x = new GravyBoats();
        CHECK.due("hands from -1", x.hands(-1, 3, 0), NONE);
        CHECK.due("hands to 12", x.hands(3, 12, 0), NONE);
        CHECK.due("hands what 2", x.hands(3, 4, 2), NONE);
        CHECK.due("hands what -1", x.hands(3, 4, -1), NONE);
        CHECK.due("stained 3", x.stained(3), NONE);
        CHECK.due("stained -1", x.stained(-1), NONE);
        x.set(4, 11, 999);
        CHECK.due("stained at the shore", x.stained(2), 11);
        CHECK.due("stained 3", x.stained(3), NONE);
        CHECK.due("hands from 12", x.hands(12, 3, 0), NONE);
        CHECK.due("hands to -1", x.hands(3, -1, 1), NONE);
        CHECK.due("all candles", x.candles(4095, 0, 1), 0);
        CHECK.due("game 2", x.game(2), NONE);
        CHECK.due("game -1", x.game(-1), NONE);
        CHECK.due("all of it", x.game(1), 999);
        x.set(4, 0, 1);
        CHECK.due("alike: who begins loses", x.game(0), NONE);
        x.set(4, 0, 998);
        CHECK.due("one of the even", x.game(0), 0);
        CHECK.due("one of the even", x.game(1), 1);
    }
}
