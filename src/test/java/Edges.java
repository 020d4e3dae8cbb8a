/** Tests of single sentences that name a boundary case: each tells the promise and the sentence that it is for. */
abstract class Edges {
    static final int NONE = GravyBoats.NONE;
    static final int MIN = Integer.MIN_VALUE;
    static final int MAX = Integer.MAX_VALUE;
    static final String ON = "passes 1000;pours 0;spills 0;";
    static final String STAY = "passes 0;pours 0;spills 0;";
    private final Sentences sentences;
    private String now = "";
    private int tests;
    private int answers;
    private int wrong;

    Edges(Sentences sentences) {
        this.sentences = sentences;
    }

    abstract void all();

    final int tests() {
        return tests;
    }

    final int wrong() {
        return wrong;
    }

    /** The test of a sentence, of the promise's own or of 'Terms', by what that promise tells. */
    final void edge(int promise, String sentence, Runnable test) {
        now = "promise " + promise + ", \"" + sentence + "\"";
        tests++;
        String amiss = sentences.take(promise, sentence);
        if (!amiss.isEmpty()) {
            complain(amiss);
        }
        int before = answers;
        test.run();
        if (answers == before) {
            complain("tests nothing");
        }
    }

    private void complain(String what) {
        wrong++;
        System.out.println(now + ": " + what);
    }

    final void is(long want, long got) {
        answers++;
        if (want != got) {
            String where = StackWalker.getInstance().walk(frames -> frames
                    .filter(frame -> !frame.getClassName().equals("Edges")).findFirst()
                    .map(frame -> frame.getFileName() + ":" + frame.getLineNumber()).orElse("?"));
            complain(where + " answered " + got + ", due is " + want);
        }
    }

    final void yes(boolean got) {
        is(1, got ? 1 : 0);
    }

    final void no(boolean got) {
        is(0, got ? 1 : 0);
    }

    final void none(int got) {
        is(NONE, got);
    }

    /** FULL, AT, HEAD, SKIN, LANDED. */
    final void boat(GravyBoats x, int boat, int... want) {
        for (int i = 0; i < want.length; i++) {
            is(want[i], x.of(boat, i + 1));
        }
    }

    /** A line of THE BOOK: MINUTE, what, which, how much. */
    final void line(GravyBoats x, int i, int... want) {
        for (int what = 0; what < 4; what++) {
            is(want[what], x.book(i, what));
        }
    }

    /** The text can be: so many lines. */
    final void lines(GravyBoats x, int k, int want, String text) {
        is(want, Check.tell(x, k, text));
        is(0, x.fault(0));
        none(x.fault(1));
    }

    final void faulty(GravyBoats x, int k, int code, int place, String text) {
        none(Check.tell(x, k, text));
        is(code, x.fault(0));
        is(place, x.fault(1));
    }

    final GravyBoats lawful(String law) {
        GravyBoats x = new GravyBoats();
        yes(Check.tell(x, 0, law) > 0);
        return x;
    }

    static GravyBoats boats(int n) {
        GravyBoats x = new GravyBoats();
        for (int i = 0; i < n; i++) {
            x.boat(0, 50, 5, 1);
        }
        return x;
    }

    static String times(int n, String text) {
        return text.repeat(n);
    }

    static int next(int state) {
        return (int) (1664525L * state + 1013904223L);
    }

    /** The STATE from which a DRAW makes this one. */
    static int before(int state) {
        int inverse = 1;
        for (int i = 0; i < 5; i++) {
            inverse *= 2 - 1664525 * inverse;
        }
        return (state - 1013904223) * inverse;
    }

    /** The STATE from which a DRAW of 1000 is v. */
    static int drawing(int v) {
        return before(v << 8);
    }

    /** All that a MINUTE or a hand may change, but for lines of THE BOOK other than the last. */
    static String table(GravyBoats x) {
        StringBuilder all = new StringBuilder();
        for (int what = 0; what <= 10; what++) {
            all.append(x.look(what)).append(' ');
        }
        for (int seat = 0; seat < 12; seat++) {
            for (int what = 0; what <= 5; what++) {
                all.append(x.seat(seat, what)).append(' ');
            }
        }
        for (int boat = 0; boat < x.look(0); boat++) {
            for (int what = 0; what <= 5; what++) {
                all.append(x.of(boat, what)).append(' ');
            }
        }
        for (int kind = 0; kind < 5; kind++) {
            all.append(x.got(0, kind)).append(' ').append(x.got(11, kind)).append(' ');
        }
        for (int what = 0; what < 4; what++) {
            all.append(x.book(x.look(5) - 1, what)).append(' ');
        }
        return all.toString();
    }
}
