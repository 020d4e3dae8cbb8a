import java.util.Random;

/**
 * Promises 2 to 16 and 36 to 38: random dinners go as they go in NaiveDinner, call by call; no object is called more than
 * 512 times, so each dinner is looked at here and there.
 */
final class AgainstNaiveTest {
    private static final String[] UNITS = {"kind", "full", "skin", "steady", "thirst", "love", "pirate", "seat",
        "head", "fog", "stain", "minute"};
    private static final String[] SCRAPS = {"passes", "pours", "spills", "when", "or", "and", "not", "(", ")", ";", "+",
        "-", "*", "/", "<", "=", ">", "7", "0", "12345", "boat", "again", "at", "seat", "to", "fog", "turn", "x",
        "Passes", "full", "99", "12", "\n", "#", ".", "\u00e9", "fill", "talk", "salt", "1000"};
    private final Random random;
    private final Check check;
    private GravyBoats x = new GravyBoats();
    private NaiveDinner y = new NaiveDinner();
    private NaiveDinner image;
    private int left = 512;

    AgainstNaiveTest(long seed, Check check) {
        this.random = new Random(seed);
        this.check = check;
    }

    public static void main(String[] args) {
        Check check = new Check("AgainstNaiveTest");
        for (int seed = 0; seed < 3000; seed++) {
            AgainstNaiveTest test = new AgainstNaiveTest(seed, check);
            for (int last = 30 + test.below(400); test.left > last;) {
                test.call();
                test.compare(seed);
                test.compare(seed);
            }
            while (test.left > 0) {
                test.compare(seed);
            }
        }
        check.close();
    }

    private int below(int n) {
        return random.nextInt(n);
    }

    /** Mostly within, now and then beyond. */
    private int about(int least, int greatest) {
        int kind = below(20);
        if (kind == 0) {
            return below(2) == 0 ? least - 1 : greatest + 1;
        }
        return kind == 1 && below(4) == 0 ? random.nextInt() : least + below(greatest - least + 1);
    }

    private void call() {
        left--;
        int kind = below(30);
        if (kind < 4) {
            int a = about(0, 4), b = about(0, 99), c = about(0, 11), d = about(0, 1);
            check.due("boat", x.boat(a, b, c, d), y.boat(a, b, c, d));
        } else if (kind < 9) {
            int a = about(0, 7), b = about(0, a > 4 ? 7 : 11);
            int c = below(5) == 0 ? about(0, 999) : about(a == 2 ? -9 : 0, a == 3 ? 1 : 9);
            check.due("set " + a + " " + b + " " + c, x.set(a, b, c), y.set(a, b, c));
        } else if (kind < 14) {
            int a = about(0, 3), b = about(0, a == 2 ? 11 : 7), c = about(0, 11);
            check.due("act " + a + " " + b + " " + c, x.act(a, b, c), y.act(a, b, c));
        } else if (kind < 18) {
            int n = below(4) == 0 ? about(1, 60) : 1 + below(5);
            check.due("minutes " + n, x.minutes(n), y.minutes(n));
        } else if (kind < 23) {
            text();
        } else if (kind < 25) {
            check.due("undo", x.undo(), y.undo());
        } else if (kind == 25) {
            int v = random.nextInt();
            check.due("state", x.state(v), y.state);
            y.state = v;
            y.past.clear();
        } else if (kind == 26) {
            imageTaken();
        } else {
            int n = about(1, 60), what = about(0, 3);
            check.due("goes " + n + " " + what, x.goes(n, what), y.goes(n, what));
            int b = about(0, 7);
            check.due("brings " + b, x.brings(b, what), y.brings(b, what));
            left--;
        }
    }

    private void imageTaken() {
        boolean taken = below(2) == 0;
        check.due("image " + taken, x.image(taken), taken || image != null);
        if (taken) {
            image = y.copy();
        } else if (image != null) {
            y.takeOver(image, true);
            y.past.clear();
        }
    }

    private void text() {
        int k = about(0, 3);
        StringBuilder text = new StringBuilder();
        int lines = below(10) == 0 ? 17 : below(5);
        for (int i = 0; i < lines; i++) {
            text.append(lines == 17 ? shortLine(k) : line(k));
        }
        while (below(3) == 0) {
            int at = below(text.length() + 1);
            if (below(2) == 0) {
                text.insert(at, " " + SCRAPS[below(SCRAPS.length)] + " ");
            } else if (at < text.length()) {
                text.deleteCharAt(at);
            }
        }
        if (text.length() > 400) {
            text.setLength(400);
        }
        // the feeds, end, text and what is asked below, but for the one that is counted already
        left -= (text.length() + 19) / 20 + 4;
        check.due("text " + k + ": " + text, Check.tell(x, k, text.toString()), y.text(k, text.toString()));
        check.due("fault(0) of " + text, x.fault(0), y.faultCode);
        check.due("fault(1) of " + text, x.fault(1), y.faultPlace);
        check.due("the tape is empty", x.end(1), false);
    }

    private String shortLine(int k) {
        switch (k) {
            case 0: return "pours " + below(10) + ";";
            case 1: return "boat 0 again " + (1 + below(9)) + ";";
            case 2: return "at " + below(99) + " fog " + below(10) + ";";
            default: return "seat 1 to " + (3 + below(8)) + ";";
        }
    }

    private String line(int k) {
        int boat = Math.max(0, about(0, Math.max(0, y.boats.size() - 1)));
        switch (k) {
            case 0:
                String word = new String[] {"passes", "pours", "spills"}[below(3)];
                return word + " " + sum() + (below(3) == 0 ? "" : " when " + so(0)) + ";";
            case 1:
                return "boat " + boat + " again " + Math.max(0, about(1, 99)) + "; ";
            case 2:
                int minute = Math.min(9999, y.minute + below(6));
                String[] what = {"fog " + below(10), "talk " + below(4), "salt " + below(12),
                    "fill " + boat + " " + below(100), "turn " + boat};
                return "at " + minute + " " + what[below(5)] + ";\n";
            default:
                return "seat " + below(12) + " to " + Math.max(0, about(0, 11)) + ";";
        }
    }

    private String unit() {
        return below(2) == 0 ? UNITS[below(12)] : String.valueOf(below(below(3) == 0 ? 10000 : 30));
    }

    private String sum() {
        StringBuilder text = new StringBuilder(unit());
        while (below(2) == 0) {
            int sign = below(4);
            text.append("+-*/".charAt(sign)).append(sign == 3 ? String.valueOf(1 + below(9)) : unit());
        }
        if (below(4) == 0) {
            text.append("*100");
        }
        return text.toString();
    }

    private String so(int depth) {
        int kind = depth > 4 ? 9 : below(10);
        if (kind < 2) {
            return "not " + (below(2) == 0 ? "(" + so(depth + 1) + ")" : sum() + "<" + sum());
        }
        if (kind < 4) {
            return "(" + so(depth + 1) + ")";
        }
        if (kind < 6) {
            return so(depth + 1) + (below(2) == 0 ? " and " : " or ") + so(depth + 1);
        }
        return sum() + "<=>".charAt(below(3)) + sum();
    }

    private void compare(int seed) {
        left--;
        String where = "seed " + seed + ", " + left + " calls left, ";
        switch (below(5)) {
            case 0:
                compareLook(where, below(13));
                break;
            case 1:
                int s = below(12);
                int of = below(6);
                check.due(where + "seat " + s + " " + of, x.seat(s, of), of == 5 ? y.reach(s) : y.seats[s][of]);
                break;
            case 2:
                compareBoat(where, below(Math.min(9, y.boats.size() + 1)), below(9));
                break;
            case 3:
                int kind = below(5);
                int shore = below(2);
                check.due(where + "got " + shore, x.got(11 * shore, kind), y.got[shore][kind]);
                break;
            default:
                int line = below(2) == 0 ? y.book.size() - below(6) : below(151);
                int what = below(4);
                boolean there = line >= 0 && line < y.book.size();
                check.due(where + "book " + line + " " + what, x.book(line, what), there ? y.book.get(line)[what] : -1);
        }
    }

    private void compareLook(String where, int what) {
        int[] looks = {y.boats.size(), y.drunk, y.talk, y.fog, y.minute, y.book.size(), y.state, y.lines(0).size(),
            y.lines(1).size(), y.lines(2).size(), y.lines(3).size(), y.past.size(), -1};
        check.due(where + "look " + what, x.look(what), looks[what]);
    }

    private void compareBoat(String where, int boat, int what) {
        String[] words = {"passes", "pours", "spills"};
        int want = boat >= y.boats.size() ? -1 : what < 6 ? y.boats.get(boat)[what] : y.told(boat, words[what - 6]);
        check.due(where + "of " + boat + " " + what, x.of(boat, what), want);
    }
}
