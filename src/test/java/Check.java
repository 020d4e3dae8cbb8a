/** Counts the answers that are not as due, and feeds texts. */
final class Check {
    private final String name;
    private int checks;
    private int wrong;

    Check(String name) {
        this.name = name;
    }

    void due(String call, long got, long want) {
        checks++;
        if (got != want) {
            wrong++;
            if (wrong <= 40) {
                System.out.println(name + ": " + call + " answered " + got + ", due is " + want);
            }
        }
    }

    void due(String call, boolean got, boolean want) {
        due(call, got ? 1 : 0, want ? 1 : 0);
    }

    /** Ends the test: exit code 1 if an answer was wrong. */
    void close() {
        System.out.println(name + ": " + checks + " answers, " + wrong + " wrong");
        if (wrong != 0) {
            System.exit(1);
        }
    }

    /** The text comes on the TAPE (which is empty before) and is told as TEXT k. */
    static int tell(GravyBoats x, int k, String text) {
        put(x, text);
        return x.text(k);
    }

    static void put(GravyBoats x, String text) {
        for (int i = 0; i < text.length(); i += 20) {
            int[] n = new int[5];
            for (int j = 0; j < 20; j++) {
                int c = i + j < text.length() ? text.charAt(i + j) : ' ';
                n[j / 4] = n[j / 4] << 8 | c & 255;
            }
            x.feed(n[0], n[1], n[2], n[3], n[4]);
        }
        x.end(text.length());
    }

    /** How text k with this text ends: its lines, or 10000 * FAULT + place, with a minus before it. */
    static long outcome(GravyBoats x, int k, String text) {
        int lines = tell(x, k, text);
        return lines == GravyBoats.NONE ? -(10000L * x.fault(0) + x.fault(1)) : lines;
    }
}
