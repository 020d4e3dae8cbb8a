/** Promises 7 to 10: the TAPE, the TEXTS and their FAULTS. */
final class TextTest {
    private static final Check CHECK = new Check("TextTest");

    public static void main(String[] args) {
        tape();
        law();
        lawFaults();
        open();
        voyages();
        dinner();
        reach();
        tooMany();
        kept();
        CHECK.close();
    }

    private static void tape() {
        GravyBoats x = new GravyBoats();
        for (int i = 1; i <= 20; i++) {
            CHECK.due("feed", x.feed(0, 0, 0, 0, 0), 20 * i);
        }
        CHECK.due("over 400", x.feed(0, 0, 0, 0, 0), -1);
        CHECK.due("nothing came", x.end(401), false);
        CHECK.due("end(400)", x.end(400), true);
        CHECK.due("end(-1)", x.end(-1), false);
        CHECK.due("end(381)", x.end(381), true);
        CHECK.due("381 and 20", x.feed(0, 0, 0, 0, 0), -1);
        CHECK.due("end(380)", x.end(380), true);
        CHECK.due("380 and 20", x.feed(0, 0, 0, 0, 0), 400);
        CHECK.due("end(0)", x.end(0), true);
        CHECK.due("end(1)", x.end(1), false);
        CHECK.due("the highest byte first", x.feed(0x706f7572, 0x7320373b, -1, 0, 0), 20);
        CHECK.due("end(8)", x.end(8), true);
        CHECK.due("pours 7;", x.text(0), 1);
        CHECK.due("empty then", x.end(1), false);
        x.feed(0x706f7572, 0x7320373b, -1, 0, 0);
        CHECK.due("text(4)", x.text(4), -1);
        CHECK.due("fault(0)", x.fault(0), 0);
        CHECK.due("fault(1)", x.fault(1), -1);
        CHECK.due("empty then, too", x.end(1), false);
        CHECK.due("text(-1)", x.text(-1), -1);
        CHECK.due("fault(2)", x.fault(2), -1);
        CHECK.due("fault(-1)", x.fault(-1), -1);
        StringBuilder full = new StringBuilder("pours 1");
        while (full.length() < 398) {
            full.append("+1");
        }
        x.boat(0, 1, 1, 1);
        CHECK.due("400 bytes", Check.tell(x, 0, full.append(" ;").substring(0, 400)), -1);
        CHECK.due("place", x.fault(1), 400);
        CHECK.due("400 bytes", Check.tell(x, 0, full.substring(0, full.length() - 2) + ";"), 1);
        CHECK.due("the sum of them, held", x.of(0, 7), 99);
    }

    private static long told(GravyBoats x, String law, int what) {
        CHECK.due(law, Check.tell(x, 0, law) > 0, true);
        return x.of(0, what);
    }

    private static void law() {
        GravyBoats x = new GravyBoats();
        x.boat(3, 80, 4, 0);
        x.set(0, 4, 2);
        x.set(1, 4, 6);
        x.set(2, 4, -7);
        x.set(3, 4, 1);
        x.set(4, 4, 321);
        x.set(6, 0, 8);
        x.set(7, 0, 5);
        x.minutes(1);
        x.undo();
        CHECK.due("passes without THE LAW", x.of(0, 6), 500 + 80 - 250 + 140);
        CHECK.due("pours without THE LAW", x.of(0, 7), 11);
        CHECK.due("spills without THE LAW", x.of(0, 8), 160);
        String[] words = {"kind", "full", "skin", "steady", "thirst", "pirate", "seat", "head", "fog", "stain"};
        int[] worth = {3, 80, 8, 2, 6, 1, 4, 0, 5, 321};
        for (int i = 0; i < words.length; i++) {
            CHECK.due(words[i], told(x, "passes " + words[i] + ";", 6), worth[i]);
        }
        CHECK.due("love as it is", told(x, "passes love + 100;", 6), 93);
        CHECK.due("minute", told(x, "passes minute;", 6), 0);
        CHECK.due("/ goes towards 0", told(x, "passes love / 2 + 10;", 6), 7);
        CHECK.due("* before +", told(x, "passes 2+3*4;", 6), 14);
        CHECK.due("from the left", told(x, "passes 20-3-4;", 6), 13);
        CHECK.due("* and / from the left", told(x, "passes 7/2*10;", 6), 30);
        CHECK.due("wraps", told(x, "passes 9999*9999*9999*9999;", 6), 1000 * (9999 * 9999 * 9999 * 9999 > 0 ? 1 : 0));
        CHECK.due("held below", told(x, "passes 0-1;", 6), 0);
        CHECK.due("held above", told(x, "spills 1001;", 8), 1000);
        CHECK.due("pours held above", told(x, "pours 100;", 7), 99);
        CHECK.due("the first that is so", told(x, "passes 1 when fog<5;passes 2 when fog=5;passes 3;", 6), 2);
        CHECK.due("the first without", told(x, "passes 1;passes 2;", 6), 1);
        CHECK.due("none is so", told(x, "passes 1 when fog>5;", 6), 470);
        CHECK.due("another word", told(x, "pours 1;", 6), 470);
        CHECK.due("and before or", told(x, "passes 1 when 1=1 or 1=1 and 1=2;passes 2;", 6), 1);
        CHECK.due("brackets", told(x, "passes 1 when(1=1 or 1=1)and 1=2;passes 2;", 6), 2);
        CHECK.due("not of one alone", told(x, "passes 1 when not 1=1 or 1=1;passes 2;", 6), 1);
        CHECK.due("not of brackets", told(x, "passes 1 when not(1=1 or 1=1);passes 2;", 6), 2);
        CHECK.due("not not", told(x, "passes 1 when not not 1=1;passes 2;", 6), 1);
        CHECK.due("words and numbers touch", told(x, "passes12when3<4and\n5>4;", 6), 12);
        CHECK.due("an empty text", Check.tell(x, 0, " \n "), 0);
        CHECK.due("takes THE LAW away", x.of(0, 6), 470);
    }

    /** A law's outcome with 2 BOATS at the table: lines, or -(10000 * FAULT + place). */
    private static void due(int k, String text, long want) {
        GravyBoats x = new GravyBoats();
        x.boat(0, 1, 1, 1);
        x.boat(0, 1, 1, 1);
        CHECK.due("text " + k + " <" + text + ">", Check.outcome(x, k, text), want);
    }

    private static long fault(int code, int place) {
        return -(10000L * code + place);
    }

    private static void lawFaults() {
        due(0, "passes", fault(1, 6));
        due(0, "passes ", fault(1, 7));
        due(0, "passes 1", fault(1, 8));
        due(0, "passes 1 ", fault(1, 9));
        due(0, "Passes 1;", fault(1, 0));
        due(0, "passesx 1;", fault(1, 0));
        due(0, "passes 12345;", fault(1, 7));
        due(0, "passes 0000;", 1);
        due(0, "passes 00000;", fault(1, 7));
        due(0, "passes 1/0;", fault(2, 9));
        due(0, "passes 1/0000;", fault(2, 9));
        due(0, "passes 1/full;", fault(1, 9));
        due(0, "passes 1/12345;", fault(1, 9));
        due(0, "passes (1);", fault(1, 7));
        due(0, "passes -1;", fault(1, 7));
        due(0, "passes 1 when;", fault(1, 13));
        due(0, "passes 1 when 1;", fault(1, 15));
        due(0, "passes 1 when 1=1=1;", fault(1, 17));
        due(0, "passes 1 when (1)=1;", fault(1, 16));
        due(0, "passes 1 when (1=1;", fault(1, 18));
        due(0, "passes 1 when 1=1);", fault(1, 17));
        due(0, "passes 1 when not;", fault(1, 17));
        due(0, "passes 1 when 1=1 or;", fault(1, 20));
        due(0, "passes 1 when 1=1 and or;", fault(1, 22));
        due(0, "passes 1 when 1=1 when 1=1;", fault(1, 18));
        due(0, "passes boat;", fault(1, 7));
        due(0, "passes again;", fault(1, 7));
        due(0, "passes 1;;", fault(1, 9));
        due(0, ";", fault(1, 0));
        due(0, "passes 1;x", fault(1, 9));
        due(0, "passes 1;\t", fault(1, 9));
        due(0, "passes 1\r;", fault(1, 8));
        due(0, "passes 1 . ;", fault(1, 9));
        due(0, "passes " + (char) 233 + ";", fault(1, 7));
        due(0, "passes 1" + (char) 0 + ";", fault(1, 8));
        due(0, "passes 1/0 when (", fault(2, 9));
    }

    private static void open() {
        due(0, "passes 1 when((((((((1=1))))))));", 1);
        due(0, "passes 1 when(((((((((1=1)))))))));", fault(3, 21));
        due(0, "passes 1 when not not not not not not not not 1=1;", 1);
        due(0, "passes 1 when not not not not not not not not not 1=1;", fault(3, 46));
        due(0, "passes 1 when not(not(not(not(1=1))));", 1);
        due(0, "passes 1 when not(not(not(not(not 1=1))));", fault(3, 30));
        due(0, "passes 1 when not not not not not not not 1=1 and not not not not not not not not 1=1;", 1);
        due(0, "passes 1 when (((((((1=1))))))) or not (((((((1=1)))))));", 1);
        due(0, "passes 1 when (((((((1=1 and not 1=1)))))));", 1);
        due(0, "passes 1 when (((((((1=1 and not not 1=1)))))));", fault(3, 33));
    }

    private static void voyages() {
        due(1, "", 0);
        due(1, "boat 0 again 1;boat 1 again 99;boat 0 again 5;", 3);
        due(1, "boat 2 again 1;", fault(2, 5));
        due(1, "boat 0 again 0;", fault(2, 13));
        due(1, "boat 0 again 100;", fault(2, 13));
        due(1, "boat 0 again 10000;", fault(1, 13));
        due(1, "boat again 1;", fault(1, 5));
        due(1, "boat 0 1;", fault(1, 7));
        due(1, "boat 0 again;", fault(1, 12));
        due(1, "boat 0 again 1", fault(1, 14));
        due(1, "seat 0 again 1;", fault(1, 0));
        GravyBoats x = new GravyBoats();
        CHECK.due("no BOAT at all", Check.outcome(x, 1, "boat 0 again 1;"), fault(2, 5));
    }

    private static void dinner() {
        due(2, "at 0 fog 0;at 999 talk 9;at 5 salt 11;at 5 fill 1 99;at 5 turn 0;", 5);
        due(2, "at 1000 fog 0;", fault(2, 3));
        due(2, "at 0 fog 10;", fault(2, 9));
        due(2, "at 0 talk 10;", fault(2, 10));
        due(2, "at 0 salt 12;", fault(2, 10));
        due(2, "at 0 fill 2 1;", fault(2, 10));
        due(2, "at 0 fill 1 100;", fault(2, 12));
        due(2, "at 0 fill 1;", fault(1, 11));
        due(2, "at 0 turn 2;", fault(2, 10));
        due(2, "at 0 turn 1 1;", fault(1, 12));
        due(2, "at 0 seat 1;", fault(1, 5));
        due(2, "at 0 to 1;", fault(1, 5));
        due(2, "at 0 again 1;", fault(1, 5));
        due(2, "at 0;", fault(1, 4));
        due(2, "at fog 1;", fault(1, 3));
        due(2, "fog 1;", fault(1, 0));
    }

    private static void reach() {
        due(3, "seat 0 to 11;seat 5 to 3;seat 3 to 5;", 3);
        due(3, "seat 12 to 1;", fault(2, 5));
        due(3, "seat 1 to 12;", fault(2, 10));
        due(3, "seat 4 to 4;", fault(2, 10));
        due(3, "seat 4 to 5;", fault(2, 10));
        due(3, "seat 4 to 3;", fault(2, 10));
        due(3, "seat 4 to 6;", 1);
        due(3, "seat 11 to 12;", fault(2, 11));
        due(3, "seat 4 6;", fault(1, 7));
        due(3, "seat 4 to;", fault(1, 9));
        due(3, "to 4 seat 6;", fault(1, 0));
    }

    private static String times(int n, String line) {
        StringBuilder all = new StringBuilder();
        for (int i = 0; i < n; i++) {
            all.append(line);
        }
        return all.toString();
    }

    private static void tooMany() {
        String[] lines = {"pours 1;", "boat 0 again 1;", "at 0 fog 1;", "seat 1 to 3;"};
        String[] words = {"spills", "boat", "at", "seat"};
        for (int k = 0; k < 4; k++) {
            int length = 16 * lines[k].length();
            due(k, times(16, lines[k]), 16);
            due(k, times(17, lines[k]), fault(3, length));
            due(k, times(16, lines[k]) + " " + words[k], fault(3, length + 1));
            due(k, times(16, lines[k]) + "x", fault(1, length));
            due(k, times(16, lines[k]) + ";", fault(1, length));
        }
    }

    /** A FAULT leaves the TEXT as it was. */
    private static void kept() {
        GravyBoats x = new GravyBoats();
        x.boat(0, 50, 1, 1);
        Check.tell(x, 0, "pours 7;");
        Check.tell(x, 1, "boat 0 again 9;");
        Check.tell(x, 2, "at 3 fog 4;");
        Check.tell(x, 3, "seat 1 to 9;");
        CHECK.due("a fault", Check.outcome(x, 0, "pours 8;pours"), fault(1, 13));
        CHECK.due("a fault", Check.outcome(x, 1, "boat 0 again 8;boat 0 again 0;"), fault(2, 28));
        CHECK.due("a fault", Check.outcome(x, 2, "at 3 fog 5;at"), fault(1, 13));
        CHECK.due("a fault", Check.outcome(x, 3, "seat 1 to 8;seat 1 to 2;"), fault(2, 22));
        CHECK.due("pours", x.of(0, 7), 7);
        for (int k = 0; k < 4; k++) {
            CHECK.due("lines of " + k, x.look(7 + k), 1);
        }
        CHECK.due("reach", x.seat(1, 5), 1 | 4 | 512);
        CHECK.due("either way", x.seat(9, 5), 2 | 256 | 1024);
        x.text(0);
        CHECK.due("no fault then", x.fault(0), 0);
        CHECK.due("no place then", x.fault(1), -1);
    }
}
