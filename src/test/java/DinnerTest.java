/** Promises 2 to 6, 11 to 16 and 36 to 38 by dinners that are told by hand. */
final class DinnerTest {
    private static final Check CHECK = new Check("DinnerTest");

    public static void main(String[] args) {
        draws();
        boats();
        setting();
        acting();
        minuteBounds();
        pouring();
        pirates();
        spilling();
        landing();
        skin();
        courses();
        saltOfDinner();
        bookIsFull();
        inThought();
        undoing();
        forgetting();
        image();
        looking();
        CHECK.close();
    }

    private static GravyBoats withLaw(String law) {
        GravyBoats x = new GravyBoats();
        CHECK.due(law, Check.tell(x, 0, law) > 0, true);
        return x;
    }

    private static void line(GravyBoats x, int i, int minute, int what, int which, int much) {
        CHECK.due("book(" + i + ", 0)", x.book(i, 0), minute);
        CHECK.due("book(" + i + ", 1)", x.book(i, 1), what);
        CHECK.due("book(" + i + ", 2)", x.book(i, 2), which);
        CHECK.due("book(" + i + ", 3)", x.book(i, 3), much);
    }

    /** FULL, AT, HEAD, SKIN, LANDED. */
    private static void boat(GravyBoats x, int boat, int... want) {
        for (int i = 0; i < want.length; i++) {
            CHECK.due("of(" + boat + ", " + (i + 1) + ")", x.of(boat, i + 1), want[i]);
        }
    }

    private static void draws() {
        GravyBoats x = new GravyBoats();
        CHECK.due("state", x.state(-5), 0);
        CHECK.due("state", x.state(Integer.MIN_VALUE), -5);
        CHECK.due("STATE as it is", x.look(6), Integer.MIN_VALUE);
        x.boat(0, 0, 0, 1);
        Check.tell(x, 0, "passes 0;");
        x.minutes(1);
        CHECK.due("a draw though it can't pass", x.look(6), 1664525 * Integer.MIN_VALUE + 1013904223);
        int state = x.look(6);
        Check.tell(x, 0, "passes 1000;spills 0;");
        x.minutes(1);
        CHECK.due("no draw for spills 0", x.look(6), 1664525 * state + 1013904223);
        CHECK.due("went on", x.of(0, 2), 1);
        state = x.look(6);
        Check.tell(x, 0, "passes 1000;spills 1;");
        x.minutes(1);
        CHECK.due("two draws", x.look(6), 1664525 * (1664525 * state + 1013904223) + 1013904223);
        int draw = (x.look(6) >>> 8) % 1000;
        x.state(state);
        Check.tell(x, 0, "passes " + ((1664525 * state + 1013904223) >>> 8) % 1000 + ";");
        x.minutes(1);
        CHECK.due("not below it: it stays", x.of(0, 2), 2);
        x.state(state);
        Check.tell(x, 0, "passes " + ((1664525 * state + 1013904223) >>> 8) % 1000 + "+1;");
        x.minutes(1);
        CHECK.due("below it: it goes on", x.of(0, 2), 3);
        x.state(state);
        x.set(5, 0, 9);
        Check.tell(x, 0, "passes 1000;spills " + draw + ";");
        x.minutes(1);
        CHECK.due("not below it: nothing is spilt", x.of(0, 1), 9);
        x.state(state);
        Check.tell(x, 0, "passes 1000;spills " + draw + "+1;");
        x.minutes(1);
        CHECK.due("below it: spilt", x.of(0, 1), 6);
    }

    private static void boats() {
        GravyBoats x = new GravyBoats();
        CHECK.due("kind -1", x.boat(-1, 0, 5, 1), -1);
        CHECK.due("kind 5", x.boat(5, 0, 5, 1), -1);
        CHECK.due("full -1", x.boat(0, -1, 5, 1), -1);
        CHECK.due("full 100", x.boat(0, 100, 5, 1), -1);
        CHECK.due("at -1", x.boat(0, 0, -1, 1), -1);
        CHECK.due("at 12", x.boat(0, 0, 12, 0), -1);
        CHECK.due("head 2", x.boat(0, 0, 5, 2), -1);
        CHECK.due("head -1", x.boat(0, 0, 5, -1), -1);
        CHECK.due("at its shore", x.boat(0, 0, 11, 1), -1);
        CHECK.due("at its shore", x.boat(0, 0, 0, 0), -1);
        CHECK.due("from shore to shore", x.boat(4, 99, 11, 0), 0);
        CHECK.due("kind", x.of(0, 0), 4);
        boat(x, 0, 99, 11, 0, 0, 0);
        for (int i = 1; i < 8; i++) {
            CHECK.due("boat", x.boat(0, 0, 0, 1), i);
        }
        CHECK.due("the ninth", x.boat(0, 0, 0, 1), -1);
        CHECK.due("look(0)", x.look(0), 8);
        CHECK.due("of(8, 0)", x.of(8, 0), -1);
        CHECK.due("of(-1, 0)", x.of(-1, 0), -1);
        CHECK.due("of(0, 9)", x.of(0, 9), -1);
        CHECK.due("of(0, -1)", x.of(0, -1), -1);
    }

    private static void setting() {
        GravyBoats x = new GravyBoats();
        x.boat(0, 0, 0, 1);
        int[] least = {0, 0, -9, 0, 0, 0, 0, 0};
        int[] most = {9, 9, 9, 1, 999, 99, 9, 9};
        for (int what = 0; what < 8; what++) {
            CHECK.due("below " + what, x.set(what, 0, least[what] - 1), false);
            CHECK.due("above " + what, x.set(what, 0, most[what] + 1), false);
            for (int v : new int[] {least[what], most[what]}) {
                CHECK.due("set " + what, x.set(what, 0, v), true);
                int now = what < 5 ? x.seat(0, what) : what == 5 ? x.of(0, 1) : what == 6 ? x.of(0, 4) : x.look(3);
                CHECK.due("is set " + what, now, v);
            }
            CHECK.due("who -1 " + what, x.set(what, -1, 0), what == 7);
            CHECK.due("who 12 " + what, x.set(what, 12, 0), what == 7);
            CHECK.due("who 1 " + what, x.set(what, 1, 0), what < 5 || what == 7);
            CHECK.due("who 11 " + what, x.set(what, 11, 0), what < 5 || what == 7);
        }
        CHECK.due("set(8)", x.set(8, 0, 0), false);
        CHECK.due("set(-1)", x.set(-1, 0, 0), false);
        CHECK.due("seat(12)", x.seat(12, 0), -100);
        CHECK.due("seat(-1)", x.seat(-1, 0), -100);
        CHECK.due("seat what 6", x.seat(0, 6), -100);
        CHECK.due("seat what -1", x.seat(0, -1), -100);
        CHECK.due("got(1, 0)", x.got(1, 0), -1);
        CHECK.due("got(0, 5)", x.got(0, 5), -1);
        CHECK.due("got(0, -1)", x.got(0, -1), -1);
        CHECK.due("got(-1, 0)", x.got(-1, 0), -1);
    }

    private static void acting() {
        GravyBoats x = new GravyBoats();
        x.boat(2, 20, 5, 1);
        CHECK.due("to its own seat", x.act(0, 0, 5), false);
        CHECK.due("too far", x.act(0, 0, 7), false);
        CHECK.due("seat -1", x.act(0, 0, -1), false);
        CHECK.due("seat 12", x.act(0, 0, 12), false);
        CHECK.due("seat 38", x.act(0, 0, 38), false);
        CHECK.due("no such boat", x.act(0, 1, 4), false);
        CHECK.due("back", x.act(0, 0, 4), true);
        Check.tell(x, 3, "seat 11 to 4;");
        CHECK.due("far, and it lands", x.act(0, 0, 11), true);
        boat(x, 0, 0, 11, 1, 0, 1);
        CHECK.due("got", x.got(11, 2), 20);
        line(x, 0, 0, 3, 0, 4);
        line(x, 1, 0, 3, 0, 11);
        line(x, 2, 0, 2, 0, 20);
        CHECK.due("away from its shore", x.act(0, 0, 4), true);
        GravyBoats y = new GravyBoats();
        y.boat(1, 9, 1, 0);
        CHECK.due("to SHORE 0", y.act(0, 0, 0), true);
        CHECK.due("got there", y.got(0, 1), 9);
        x.set(5, 0, 7);
        x.set(3, 4, 1);
        x.set(2, 4, 5);
        CHECK.due("pour 0", x.act(1, 0, 0), false);
        CHECK.due("pour 8 of 7", x.act(1, 0, 8), false);
        CHECK.due("pour from none", x.act(1, 1, 1), false);
        CHECK.due("pour 7", x.act(1, 0, 7), true);
        CHECK.due("drunk", x.look(1), 7);
        CHECK.due("by hand no pirate's", x.seat(4, 2), 5);
        line(x, 4, 0, 0, 0, 7);
        CHECK.due("salt what is clean", x.act(2, 3, 0), false);
        CHECK.due("salt seat 12", x.act(2, 12, 0), false);
        CHECK.due("salt seat -1", x.act(2, -1, 0), false);
        x.set(4, 3, 999);
        CHECK.due("salt", x.act(2, 3, -7), true);
        CHECK.due("stain", x.seat(3, 4), 0);
        line(x, 5, 0, 4, 3, 999);
        CHECK.due("speak 0", x.act(3, 0, 0), false);
        CHECK.due("speak 10", x.act(3, 0, 10), false);
        CHECK.due("speak 9", x.act(3, -77, 9), true);
        CHECK.due("talk", x.look(2), 9);
        CHECK.due("speak 1", x.act(3, 0, 1), true);
        CHECK.due("talk", x.look(2), 1);
        CHECK.due("act 4", x.act(4, 0, 4), false);
        CHECK.due("act -1", x.act(-1, 0, 4), false);
        CHECK.due("no line for speaking", x.look(5), 6);
        CHECK.due("line 6", x.book(6, 0), -1);
        CHECK.due("line -1", x.book(-1, 0), -1);
        CHECK.due("what 4", x.book(0, 4), -1);
        CHECK.due("what -1", x.book(0, -1), -1);
    }

    private static void minuteBounds() {
        GravyBoats x = new GravyBoats();
        CHECK.due("0", x.minutes(0), -1);
        CHECK.due("-1", x.minutes(-1), -1);
        CHECK.due("61", x.minutes(61), -1);
        for (int i = 0; i < 166; i++) {
            CHECK.due("60", x.minutes(60), 0);
        }
        CHECK.due("MINUTE", x.look(4), 9960);
        CHECK.due("above 9999", x.minutes(40), -1);
        CHECK.due("MINUTE", x.look(4), 9960);
        CHECK.due("up to 9999", x.minutes(39), 0);
        CHECK.due("MINUTE", x.look(4), 9999);
        CHECK.due("no more", x.minutes(1), -1);
        CHECK.due("not far beyond", x.minutes(Integer.MAX_VALUE), -1);
        CHECK.due("in thought it goes on", x.goes(60, 0), 0);
        CHECK.due("what can be undone", x.look(11), 6);
    }

    private static void pouring() {
        GravyBoats x = withLaw("passes 0;pours 5 when seat=3;pours full;");
        x.boat(1, 12, 3, 1);
        x.boat(1, 12, 4, 1);
        x.boat(1, 0, 4, 0);
        CHECK.due("minutes", x.minutes(3), 0);
        CHECK.due("drunk", x.look(1), 24);
        line(x, 0, 0, 0, 0, 5);
        line(x, 1, 0, 0, 1, 12);
        line(x, 2, 1, 0, 0, 5);
        line(x, 3, 2, 0, 0, 2);
        CHECK.due("no line for nothing", x.look(5), 4);
        boat(x, 0, 0, 3, 1, 3, 0);
    }

    private static void pirates() {
        GravyBoats x = withLaw("passes 0;");
        x.boat(1, 99, 3, 1);
        x.boat(1, 99, 4, 1);
        x.boat(1, 99, 5, 1);
        for (int seat = 3; seat < 6; seat++) {
            x.set(3, seat, 1);
            x.set(1, seat, seat);
            x.set(2, seat, seat - 4);
        }
        x.set(2, 3, -9);
        x.minutes(2);
        CHECK.due("not into DRUNK", x.look(1), 0);
        CHECK.due("thirst and five", x.of(0, 1), 99 - 16);
        CHECK.due("towards 0 from below", x.seat(3, 2), -7);
        CHECK.due("stays at 0", x.seat(4, 2), 0);
        CHECK.due("towards 0 and no further", x.seat(5, 2), 0);
        line(x, 0, 0, 0, 0, 8);
    }

    private static void spilling() {
        GravyBoats x = withLaw("passes 1000;pours 0;spills 1000 when seat=5;spills 0;");
        x.boat(0, 10, 4, 1);
        x.boat(0, 0, 6, 0);
        x.set(4, 5, 997);
        x.minutes(1);
        CHECK.due("a third, upwards", x.of(0, 1), 6);
        CHECK.due("999 at most", x.seat(5, 4), 999);
        line(x, 0, 0, 1, 0, 4);
        CHECK.due("no line for nothing spilt", x.look(5), 1);
        x.minutes(1);
        CHECK.due("no more spilt", x.of(0, 1), 6);
        GravyBoats y = withLaw("passes 1000;spills 1000;pours 0;");
        y.boat(3, 30, 10, 1);
        CHECK.due("lands", y.minutes(1), 1);
        CHECK.due("spilt at the shore first", y.got(11, 3), 20);
        CHECK.due("stain of the shore", y.seat(11, 4), 10);
        line(y, 0, 0, 1, 0, 10);
        line(y, 1, 0, 2, 0, 20);
    }

    private static void landing() {
        GravyBoats x = withLaw("passes 1000;spills 0;pours 0;");
        x.boat(4, 30, 1, 0);
        x.boat(4, 5, 1, 0);
        x.boat(2, 8, 9, 1);
        x.set(6, 0, 4);
        x.set(6, 1, 9);
        Check.tell(x, 1, "boat 2 again 50;boat 1 again 7;boat 2 again 60;");
        CHECK.due("two land", x.minutes(1), 2);
        CHECK.due("full less skin, 0 at least", x.got(0, 4), 26);
        line(x, 0, 0, 2, 0, 26);
        line(x, 1, 0, 2, 1, 0);
        boat(x, 0, 0, 0, 0, 0, 1);
        boat(x, 1, 7, 0, 1, 0, 1);
        CHECK.due("one lands", x.minutes(1), 1);
        boat(x, 2, 60, 11, 0, 0, 1);
        boat(x, 0, 0, 0, 0, 0, 1);
        boat(x, 1, 7, 1, 1, 0, 1);
        CHECK.due("got", x.got(11, 2), 8);
        CHECK.due("to and fro", x.minutes(20), 2);
        CHECK.due("got", x.got(0, 2), 60);
        CHECK.due("got", x.got(11, 4), 7);
    }

    private static void skin() {
        GravyBoats x = withLaw("passes 0;pours 0;");
        x.boat(0, 30, 5, 1);
        x.minutes(8);
        CHECK.due("each minute it stays", x.of(0, 4), 8);
        x.minutes(2);
        CHECK.due("9 at most", x.of(0, 4), 9);
        x.set(6, 0, 8);
        x.act(3, 0, 2);
        int state = x.look(6);
        x.minutes(2);
        CHECK.due("9 at most as one speaks", x.of(0, 4), 9);
        CHECK.due("no draws as one speaks", x.look(6), state);
        CHECK.due("talk", x.look(2), 0);
        GravyBoats y = withLaw("passes 1000;pours 1;spills 0;");
        y.boat(0, 30, 10, 1);
        y.minutes(1);
        y.act(3, 0, 1);
        y.minutes(1);
        CHECK.due("also at the shore", y.of(0, 4), 1);
        CHECK.due("nothing is poured", y.look(1), 1);
        y.minutes(3);
        boat(y, 0, 0, 11, 1, 1, 1);
    }

    private static void courses() {
        GravyBoats x = withLaw("passes 1000;pours 0;spills 0;");
        x.boat(0, 30, 10, 1);
        x.boat(0, 30, 0, 1);
        x.set(6, 1, 9);
        x.set(4, 7, 50);
        Check.tell(x, 2, "at 1 fog 3;at 0 turn 1;at 1 salt 7;at 1 fog 4;at 2 talk 1;at 2 fill 1 44;at 3 turn 0;at 3 turn 1;");
        CHECK.due("lands", x.minutes(1), 1);
        boat(x, 1, 30, 0, 0, 9, 0);
        CHECK.due("nothing", x.minutes(1), 0);
        CHECK.due("the later line", x.look(3), 4);
        CHECK.due("salted", x.seat(7, 4), 0);
        CHECK.due("a line of it", x.look(5), 2);
        line(x, 1, 1, 4, 7, 50);
        x.minutes(1);
        boat(x, 1, 44, 0, 0, 1, 0);
        CHECK.due("talk", x.look(2), 0);
        x.minutes(1);
        boat(x, 1, 44, 1, 1, 1, 0);
        boat(x, 0, 0, 10, 0, 1, 1);
        CHECK.due("lands again", x.minutes(10), 2);
        boat(x, 0, 0, 0, 0, 0, 2);
        CHECK.due("got", x.got(11, 0), 30 + 43);
    }

    private static void saltOfDinner() {
        GravyBoats x = withLaw("passes 1000;pours 2;spills 0;");
        x.boat(0, 30, 3, 1);
        x.set(4, 0, 999);
        x.set(4, 11, 1);
        Check.tell(x, 2, "at 1 salt 11;at 1 talk 1;at 1 salt 0;at 1 salt 0;at 1 salt 5;at 0 salt 4;at 2 salt 11;");
        CHECK.due("salted in thought", x.goes(3, 2), 0);
        CHECK.due("no line in thought", x.look(5), 0);
        x.minutes(1);
        CHECK.due("salted, then poured", x.look(5), 2);
        line(x, 0, 0, 4, 4, 0);
        line(x, 1, 0, 0, 0, 2);
        x.minutes(1);
        CHECK.due("salted though one speaks", x.look(5), 6);
        line(x, 2, 1, 4, 11, 1);
        line(x, 3, 1, 4, 0, 999);
        line(x, 4, 1, 4, 0, 0);
        line(x, 5, 1, 4, 5, 0);
        CHECK.due("two minutes can be undone", x.look(11), 2);
        CHECK.due("undo", x.undo(), true);
        CHECK.due("its lines go with the minute", x.look(5), 2);
        CHECK.due("the stain is back", x.seat(0, 4), 999);
        CHECK.due("by hand", x.act(2, 0, 0), true);
        line(x, 2, 1, 4, 0, 999);
        CHECK.due("by hand what is clean", x.act(2, 0, 0), false);
        x.minutes(1);
        line(x, 4, 1, 4, 0, 0);
        Check.tell(x, 2, "");
        x.minutes(1);
        CHECK.due("no salt told any more", x.look(5), 8);
        line(x, 7, 2, 0, 0, 2);
    }

    private static void bookIsFull() {
        GravyBoats x = withLaw("passes 0;pours 1;");
        for (int i = 0; i < 8; i++) {
            x.boat(0, 99, 5, 1);
        }
        x.minutes(18);
        CHECK.due("144 lines", x.look(5), 144);
        x.minutes(1);
        CHECK.due("150 lines", x.look(5), 150);
        line(x, 149, 18, 0, 5, 1);
        x.act(0, 0, 6);
        x.minutes(2);
        CHECK.due("no more then", x.look(5), 150);
        line(x, 149, 18, 0, 5, 1);
        CHECK.due("yet all is poured", x.look(1), 8 * 21);
        for (int i = 0; i < 4; i++) {
            CHECK.due("undo", x.undo(), true);
        }
        CHECK.due("back before the last lines", x.look(5), 144);
        x.act(1, 7, 9);
        line(x, 144, 18, 0, 7, 9);
        GravyBoats y = new GravyBoats();
        for (int i = 0; i < 10; i++) {
            StringBuilder salts = new StringBuilder();
            for (int seat = 0; seat < 16; seat++) {
                salts.append("at ").append(i).append(" salt ").append(seat % 12).append(';');
            }
            y.set(4, 5, 100 + i);
            Check.tell(y, 2, salts.toString());
            y.minutes(1);
        }
        CHECK.due("150 saltings", y.look(5), 150);
        line(y, 149, 9, 4, 5, 109);
    }

    private static void inThought() {
        GravyBoats x = withLaw("passes 499 when seat=4;passes 500;spills 500 when seat=2;spills 499;pours 1;");
        x.boat(0, 30, 1, 1);
        x.boat(0, 30, 9, 1);
        x.boat(3, 9, 2, 0);
        x.set(3, 9, 1);
        x.set(2, 9, 2);
        int state = x.look(6);
        CHECK.due("it would come to 4 and stay", x.goes(3, 3), 0);
        CHECK.due("skin then", x.goes(5, 3), 2);
        CHECK.due("spilt at 2 alone: 29 by 3", x.goes(1, 2), 10);
        CHECK.due("drunk", x.goes(1, 1), 2);
        CHECK.due("drunk", x.goes(2, 1), 1 + 1 + 1 + 1 + 1);
        CHECK.due("got", x.goes(2, 0), 28 + 7);
        CHECK.due("does not land", x.brings(0, 0), -1);
        CHECK.due("does not land", x.brings(0, 1), -1);
        CHECK.due("brings", x.brings(1, 0), 28);
        CHECK.due("behind", x.brings(1, 1), 2);
        CHECK.due("brings", x.brings(2, 0), 7);
        CHECK.due("behind", x.brings(2, 1), 2);
        CHECK.due("brings what 2", x.brings(0, 2), -1);
        CHECK.due("brings what -1", x.brings(0, -1), -1);
        CHECK.due("brings of none", x.brings(3, 0), -1);
        CHECK.due("brings of -1", x.brings(-1, 0), -1);
        CHECK.due("goes 0", x.goes(0, 0), -1);
        CHECK.due("goes 61", x.goes(61, 0), -1);
        CHECK.due("goes what 4", x.goes(1, 4), -1);
        CHECK.due("goes what -1", x.goes(1, -1), -1);
        CHECK.due("no draws", x.look(6), state);
        CHECK.due("nothing stays", x.look(4) + x.look(5) + x.look(1), 0);
        CHECK.due("nothing stays", x.seat(9, 2), 2);
        boat(x, 1, 30, 9, 1, 0, 0);
        x.set(7, 0, 9);
        Check.tell(x, 0, "passes 1000;pours 0;spills 0;");
        Check.tell(x, 1, "boat 1 again 40;");
        CHECK.due("the first landing alone", x.brings(1, 0), 30);
        CHECK.due("all landings", x.goes(13, 0), 30 + 40 + 30 + 9);
        StringBuilder late = new StringBuilder("at 0 talk 9;");
        for (int i = 1; i <= 5; i++) {
            late.append("at ").append(9 * i).append(" talk 9;");
        }
        Check.tell(x, 2, late + "at 54 talk 4;");
        CHECK.due("within 60 minutes", x.brings(1, 1), 60);
        CHECK.due("full less skin", x.brings(1, 0), 21);
        Check.tell(x, 2, late + "at 54 talk 5;");
        CHECK.due("too late", x.brings(1, 1), -1);
        CHECK.due("too late", x.brings(1, 0), -1);
        Check.tell(x, 2, "");
        for (int i = 3; i < 8; i++) {
            x.boat(0, 10 + i, 10, 1);
        }
        CHECK.due("the eighth", x.brings(7, 0), 17);
    }

    private static void undoing() {
        GravyBoats x = withLaw("passes 1000;pours 3;spills 1000;");
        CHECK.due("nothing", x.undo(), false);
        x.boat(0, 60, 0, 1);
        x.set(3, 0, 1);
        x.set(2, 0, 4);
        x.set(4, 6, 70);
        x.minutes(2);
        x.act(0, 0, 3);
        x.act(1, 0, 5);
        x.act(2, 6, 0);
        x.act(3, 0, 2);
        CHECK.due("what can be undone", x.look(11), 6);
        CHECK.due("undo", x.undo(), true);
        CHECK.due("silence", x.look(2), 0);
        CHECK.due("undo", x.undo(), true);
        CHECK.due("stain", x.seat(6, 4), 70);
        CHECK.due("undo", x.undo(), true);
        CHECK.due("drunk", x.look(1), 3);
        CHECK.due("undo", x.undo(), true);
        CHECK.due("at 2", x.of(0, 2), 2);
        CHECK.due("undo", x.undo(), true);
        boat(x, 0, 38, 1, 1, 0, 0);
        CHECK.due("undo", x.undo(), true);
        boat(x, 0, 60, 0, 1, 0, 0);
        CHECK.due("STATE", x.look(6), 0);
        CHECK.due("MINUTE", x.look(4), 0);
        CHECK.due("THE BOOK", x.look(5), 0);
        CHECK.due("LOVE", x.seat(0, 2), 4);
        CHECK.due("nothing more", x.undo(), false);
        x.minutes(60);
        CHECK.due("six are kept", x.look(11), 6);
        for (int i = 0; i < 6; i++) {
            CHECK.due("undo", x.undo(), true);
        }
        CHECK.due("the seventh is not", x.undo(), false);
        CHECK.due("MINUTE", x.look(4), 54);
        CHECK.due("a refused deed is none", x.act(1, 0, 99), false);
        CHECK.due("nothing to undo", x.look(11), 0);
        CHECK.due("refused minutes are none", x.minutes(61), -1);
        CHECK.due("nothing to undo", x.look(11), 0);
    }

    /** What is told forgets what can be undone, but for THE LAW, REACH and what is told for thought. */
    private static void forgetting() {
        GravyBoats x = new GravyBoats();
        x.boat(0, 60, 0, 1);
        x.minutes(3);
        Check.tell(x, 0, "pours 2;");
        Check.tell(x, 3, "seat 0 to 9;");
        x.letter(0, 1);
        x.letter(0, -1);
        x.convoy(1, 1);
        x.flag(1);
        x.gives(1, 2);
        x.cloth(1, 2);
        x.report(1, 2);
        x.jar(1, 2);
        x.image(true);
        x.boat(9, 9, 9, 9);
        x.set(9, 9, 9);
        Check.tell(x, 1, "boat 7 again 1;");
        Check.tell(x, 2, "x");
        x.text(9);
        x.feed(1, 2, 3, 4, 5);
        x.end(0);
        CHECK.due("three yet", x.look(11), 3);
        CHECK.due("undo", x.undo(), true);
        CHECK.due("THE LAW stays", x.of(0, 7), 2);
        CHECK.due("REACH stays", x.seat(0, 5), 2 | 512);
        CHECK.due("STOWED stays", x.stowed(9, 9, 0), 2);
        for (int i = 0; i < 6; i++) {
            x.minutes(1);
            CHECK.due("something", x.look(11) > 0, true);
            switch (i) {
                case 0: x.state(x.look(6)); break;
                case 1: x.boat(1, 1, 1, 1); break;
                case 2: x.set(7, 0, x.look(3)); break;
                case 3: Check.tell(x, 1, ""); break;
                case 4: Check.tell(x, 2, ""); break;
                default: x.image(false);
            }
            CHECK.due("forgotten " + i, x.look(11), 0);
            CHECK.due("undo " + i, x.undo(), false);
        }
    }

    private static void image() {
        GravyBoats x = new GravyBoats();
        x.minutes(1);
        CHECK.due("none", x.image(false), false);
        CHECK.due("forgets nothing", x.look(11), 1);
        goneBack(1);
        goneBack(2);
    }

    private static void goneBack(int times) {
        GravyBoats x = new GravyBoats();
        x.boat(0, 60, 0, 1);
        tellAll(x, 1);
        x.minutes(2);
        x.act(3, 0, 3);
        CHECK.due("taken", x.image(true), true);
        CHECK.due("forgets nothing", x.look(11), 3);
        long[] before = all(x);
        for (int time = 0; time < times; time++) {
            x.undo();
            x.undo();
            x.act(1, 0, 9);
            x.boat(1, 1, 1, 1);
            tellAll(x, 2);
            x.minutes(30);
            x.set(4, 2, 17);
            CHECK.due("a fault", Check.outcome(x, 0, "passes"), -10006);
            Check.put(x, "abc");
            CHECK.due("gone back", x.image(false), true);
            CHECK.due("nothing can be undone", x.look(11), 0);
            CHECK.due("fault() is not of it", x.fault(0), 1);
            CHECK.due("the TAPE is not of it", x.end(3), true);
            x.end(0);
        }
        long[] then = all(x);
        CHECK.due("as much", then.length, before.length);
        for (int i = 0; i < before.length && i < then.length; i++) {
            CHECK.due("as it was: " + i, then[i], before[i]);
        }
    }

    private static void tellAll(GravyBoats x, int v) {
        x.state(v);
        for (int what = 0; what < 8; what++) {
            x.set(what, what > 4 ? 0 : 3, what == 3 ? v - 1 : v + 3);
        }
        Check.tell(x, 0, "pours " + v + ";");
        Check.tell(x, 1, "boat 0 again " + v + ";");
        Check.tell(x, 2, "at " + v + " fog 1;");
        Check.tell(x, 3, "seat 0 to " + (5 + v) + ";");
        x.letter(0, v);
        x.letter(1, v);
        x.letter(1, v);
        x.convoy(v, v % 2);
        x.flag(8 - 4 * v);
        x.gives(v, v + 1);
        x.cloth(v, v + 9);
        x.report(v, v + 7);
        x.jar(v, v);
    }

    private static long[] all(GravyBoats x) {
        StringBuilder rows = new StringBuilder();
        for (int i = 0; i < 11; i++) {
            rows.append(x.look(i)).append(' ');
        }
        for (int i = 0; i < 12; i++) {
            for (int what = 0; what < 6; what++) {
                rows.append(x.seat(i, what)).append(' ');
            }
        }
        for (int what = 0; what < 4; what++) {
            rows.append(x.goes(20, what)).append(' ');
        }
        for (int i = 0; i < 9; i++) {
            rows.append(x.of(0, i)).append(' ').append(x.of(1, i)).append(' ').append(x.brings(0, i)).append(' ');
        }
        for (int i = 0; i <= x.look(5); i++) {
            rows.append(x.book(i, 0)).append(' ').append(x.book(i, 1)).append(' ').append(x.book(i, 3)).append(' ');
        }
        for (int i = 0; i < 3; i++) {
            rows.append(x.both(i)).append(' ').append(x.meets(i)).append(' ').append(x.spoons(0, i)).append(' ');
            rows.append(x.way(i)).append(' ').append(x.free(95, i)).append(' ').append(x.sprouts(i)).append(' ');
            rows.append(x.stowed(9, 0, i)).append(' ').append(x.stained(i)).append(' ').append(x.game(i)).append(' ');
        }
        for (int i = 0; i < 5; i++) {
            rows.append(x.got(0, i)).append(' ').append(x.got(11, i)).append(' ');
        }
        String[] parts = rows.toString().trim().split(" ");
        long[] numbers = new long[parts.length];
        for (int i = 0; i < parts.length; i++) {
            numbers[i] = Long.parseLong(parts[i]);
        }
        return numbers;
    }

    private static void looking() {
        GravyBoats x = new GravyBoats();
        x.boat(0, 50, 5, 1);
        Check.tell(x, 0, "pours 4;passes 0;pours 3;");
        Check.tell(x, 1, "boat 0 again 1;boat 0 again 2;");
        Check.tell(x, 2, "at 1 talk 3;at 0 fog 2;at 9 fog 1;at 9 fog 1;");
        Check.tell(x, 3, "seat 1 to 3;");
        x.minutes(2);
        int[] want = {1, 4, 2, 2, 2, 1, 1013904223, 3, 2, 4, 1, 2};
        for (int i = 0; i < want.length; i++) {
            CHECK.due("look(" + i + ")", x.look(i), want[i]);
        }
        CHECK.due("look(12)", x.look(12), -1);
        CHECK.due("look(-1)", x.look(-1), -1);
    }
}
