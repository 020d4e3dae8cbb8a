import java.util.Random;

/** No call throws or hangs whatever it is given, thought changes nothing, and the same calls answer the same. */
final class RobustTest {
    private static final int[] ODD = {Integer.MIN_VALUE, -100, -10, -2, -1, 0, 1, 2, 3, 5, 7, 8, 9, 11, 12, 16, 40, 60, 99,
        100, 999, 1000, 4095, 4096, Integer.MAX_VALUE};
    private static final String LETTERS = "passes pours spills when or and not ( ) < = > + - * / ; 1 2 0 99 9999 full seat boat again at fog talk fill turn to";

    public static void main(String[] args) {
        Check check = new Check("RobustTest");
        for (int seed = 0; seed < 3000; seed++) {
            long first = run(seed);
            check.due("seed " + seed + " answers the same", run(seed), first);
        }
        check.close();
    }

    private static int odd(Random random) {
        int kind = random.nextInt(3);
        return kind == 0 ? random.nextInt() : kind == 1 ? random.nextInt(13) - 1 : ODD[random.nextInt(ODD.length)];
    }

    private static long run(int seed) {
        Random random = new Random(seed);
        GravyBoats x = new GravyBoats();
        long sum = 0;
        // A text takes up to 22 calls, and nothing is promised behind the 512th.
        for (int calls = 0; calls <= 490;) {
            int kind = random.nextInt(40);
            if (kind < 38) {
                sum = 31 * sum + call(x, kind, random);
                calls++;
            } else {
                String text = scraps(random);
                sum = 31 * sum + Check.tell(x, random.nextInt(5), text);
                calls += (text.length() + 19) / 20 + 2;
            }
        }
        return sum;
    }

    private static int call(GravyBoats x, int kind, Random random) {
        int a = odd(random), b = odd(random), c = odd(random), d = odd(random), e = odd(random);
        switch (kind) {
            case 0: return x.state(a);
            case 1: return x.boat(a, b, c, d);
            case 2: return x.set(a, b, c) ? 1 : 0;
            case 3: return x.act(a, b, c) ? 1 : 0;
            case 4: return x.minutes(a);
            case 5: return x.feed(a, b, c, d, e);
            case 6: return x.end(a) ? 1 : 0;
            case 7: return x.text(a);
            case 8: return x.fault(a);
            case 9: return x.of(a, b);
            case 10: return x.seat(a, b);
            case 11: return x.got(a, b);
            case 12: return x.book(a, b);
            case 13: return x.goes(a, b);
            case 14: return x.brings(a, b);
            case 15: return x.hands(a, b, c);
            case 16: return x.letter(a, b);
            case 17: return x.both(a);
            case 18: return x.candles(a, b, c);
            case 19: return x.stained(a);
            case 20: return x.convoy(a, b);
            case 21: return x.meets(a);
            case 22: return x.flag(a);
            case 23: return x.spoons(a, b);
            case 24: return x.treaty(a, b, c);
            case 25: return x.gives(a, b);
            case 26: return x.way(a);
            case 27: return x.cloth(a, b);
            case 28: return x.free(a, b);
            case 29: return x.report(a, b);
            case 30: return x.sprouts(a);
            case 31: return x.jar(a, b);
            case 32: return x.stowed(a, b, c);
            case 33: return x.game(a);
            case 34: return x.undo() ? 1 : 0;
            case 35: return x.image(a > 0) ? 1 : 0;
            case 36: return x.look(a);
            default: return x.boat(random.nextInt(5), random.nextInt(100), random.nextInt(12), random.nextInt(2));
        }
    }

    private static String scraps(Random random) {
        String[] words = LETTERS.split(" ");
        StringBuilder text = new StringBuilder();
        for (int i = random.nextInt(60); i > 0; i--) {
            text.append(words[random.nextInt(words.length)]).append(random.nextBoolean() ? " " : "");
        }
        return text.substring(0, Math.min(text.length(), 400));
    }
}
