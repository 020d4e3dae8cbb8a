/** Promises 1 to 5: a new object, state, boat, set, act. */
final class EdgesOfTable extends Edges {
    EdgesOfTable(Sentences sentences) {
        super(sentences);
    }

    @Override
    void all() {
        newObject();
        firstOfSeats();
        firstOfAll();
        state();
        boatNumbers();
        boatBounds();
        setSeats();
        setBoats();
        setOthers();
        pass();
        passLands();
        pour();
        salt();
        speak();
        actOthers();
    }

    // ---- promise 1

    private void newObject() {
        edge(1, "A laid table.", () -> {
            GravyBoats x = new GravyBoats();
            for (int what = 0; what <= 11; what++) {
                is(0, x.look(what));
            }
            no(x.undo());
            no(x.image(false));
            yes(x.end(0));
            no(x.end(1));
            is(0, x.fault(0));
            none(x.fault(1));
            for (int what = 0; what < 3; what++) {
                is(0, x.both(what));
            }
            is(0, x.meets(0));
            none(x.spoons(0, 2));
            is(0, x.way(0));
            is(0, x.way(1));
            is(0, x.free(99, 0));
            is(0, x.sprouts(1));
            is(0, x.stowed(99, 99, 0));
        });
        edge(1, "A laid table.", () -> {
            GravyBoats x = new GravyBoats();
            GravyBoats y = new GravyBoats();
            y.state(7);
            y.boat(0, 9, 5, 1);
            y.set(0, 3, 9);
            y.letter(0, 4);
            y.image(true);
            Check.tell(y, 0, "pours 3;");
            y.minutes(2);
            is(0, x.look(0));
            is(0, x.look(4));
            is(0, x.look(6));
            is(0, x.look(7));
            is(5, x.seat(3, 0));
            is(0, x.both(2));
            no(x.image(false));
        });
        edge(1, "The constants: `NONE = -1`: None.", () -> is(-1, GravyBoats.NONE));
        edge(1, "An object is used for at most 512 calls after it has been made", () -> {
            GravyBoats x = new GravyBoats();
            for (int i = 1; i <= 511; i++) {
                is(i - 1, x.state(i));
            }
            is(511, x.state(0));
            GravyBoats y = lawful(ON);
            y.boat(0, 9, 0, 1);
            Check.tell(y, 1, "boat 0 again 9;");
            for (int i = 0; i < 503; i++) {
                is((i + 1) % 11 == 0 ? 1 : 0, y.minutes(1));
            }
            is(503, y.look(4));
        });
    }

    private void first(int what, int want) {
        GravyBoats x = new GravyBoats();
        for (int seat = 0; seat < 12; seat++) {
            is(want, x.seat(seat, what));
        }
    }

    private void firstOfSeats() {
        edge(1, "Of a SEAT: STEADY 0 .. 9 (5 at first)", () -> first(0, 5));
        edge(1, "THIRST 0 .. 9 (0 at first)", () -> first(1, 0));
        edge(1, "LOVE -9 .. 9 (0 at first; above 0: for SHORE 11)", () -> first(2, 0));
        edge(1, "PIRATE 0, 1 (0 at first)", () -> first(3, 0));
        edge(1, "STAIN 0 .. 999 (0 at first)", () -> first(4, 0));
    }

    private void firstOfAll() {
        edge(1, "GOT of each SHORE and KIND (ints, 0 at first).", () -> {
            GravyBoats x = new GravyBoats();
            for (int kind = 0; kind < 5; kind++) {
                is(0, x.got(0, kind));
                is(0, x.got(11, kind));
            }
        });
        edge(1, "STATE of draws (an int, 0 at first)", () -> is(0, new GravyBoats().state(1)));
        edge(1, "DRUNK (an int, 0 at first).", () -> is(0, new GravyBoats().look(1)));
        edge(1, "TALK 0 .. 9 (minutes yet that someone speaks, 0 at first)", () -> is(0, new GravyBoats().look(2)));
        edge(1, "FOG 0 .. 9 (0 at first)", () -> is(0, new GravyBoats().look(3)));
        edge(1, "MINUTE 0 .. 9999 (0 at first).", () -> is(0, new GravyBoats().look(4)));
        edge(1, "TEXTS (empty at first).", () -> {
            GravyBoats x = boats(1);
            for (int k = 0; k < 4; k++) {
                is(0, x.look(7 + k));
            }
            is(700, x.of(0, 6));
            is(1 << 4 | 1 << 6, x.seat(5, 5));
        });
    }

    // ---- promise 2

    private void state() {
        edge(2, "STATE is told: what it was.", () -> {
            GravyBoats x = new GravyBoats();
            is(0, x.state(MIN));
            is(MIN, x.state(MAX));
            is(MAX, x.state(-1));
            is(-1, x.state(0));
            is(0, x.look(6));
        });
        edge(2, "a DRAW of m: it becomes 1664525 times itself + 1013904223 (ints, which wrap)", () -> {
            for (int v : new int[] {0, 1, -1, MAX, MIN, 1291, 0x7fffff00, 123456789}) {
                GravyBoats x = lawful(STAY);
                x.boat(0, 0, 0, 1);
                x.state(v);
                x.minutes(1);
                is((int) (1664525L * v + 1013904223L), x.look(6));
            }
        });
        edge(2, "then it is its highest 24 bits (without sign) modulo m.", () -> {
            draws(0x000000ff, 0);
            draws(0x00000100, 1);
            draws(0x0003e7ff, 999);
            draws(0x0003e800, 0);
            draws(0x7fffffff, 607);
            draws(0x80000000, 608);
            draws(0xffffff00, 215);
            draws(-1, 215);
        });
        edge(2, "whatever else is told but THE LAW, REACH and what is told for thought", () -> {
            GravyBoats x = new GravyBoats();
            x.minutes(1);
            x.state(0);
            no(x.undo());
        });
    }

    /** A DRAW of 1000 by which STATE becomes this is v: not below v, but below v + 1. */
    private void draws(int state, int v) {
        for (int law = v; law <= v + 1; law++) {
            GravyBoats x = lawful("passes " + law + ";pours 0;spills 0;");
            x.boat(0, 0, 0, 1);
            x.state(before(state));
            x.minutes(1);
            is(state, x.look(6));
            is(law - v, x.of(0, 2));
        }
    }

    // ---- promise 3

    private void boatNumbers() {
        edge(3, "A BOAT: the number", () -> {
            GravyBoats x = new GravyBoats();
            is(0, x.boat(3, 41, 7, 0));
            is(1, x.boat(4, 42, 8, 1));
            is(3, x.of(0, 0));
            boat(x, 0, 41, 7, 0, 0, 0);
            is(4, x.of(1, 0));
            boat(x, 1, 42, 8, 1, 0, 0);
        });
        edge(3, "BOATS 0 .. 7 as they come: KIND", () -> {
            GravyBoats x = new GravyBoats();
            for (int i = 0; i < 8; i++) {
                is(i, x.boat(i % 5, i, 5, i % 2));
            }
            for (int i = 0; i < 8; i++) {
                is(i % 5, x.of(i, 0));
                boat(x, i, i, 5, i % 2, 0, 0);
            }
        });
        edge(3, "or there are eight.", () -> {
            GravyBoats x = boats(7);
            is(7, x.boat(4, 99, 0, 1));
            none(x.boat(0, 0, 5, 1));
            is(8, x.look(0));
            boat(x, 7, 99, 0, 1, 0, 0);
            none(x.of(8, 0));
        });
        edge(3, "NONE if one can't be (at the SHORE of its HEAD)", () -> {
            GravyBoats x = new GravyBoats();
            none(x.boat(0, 0, 0, 0));
            none(x.boat(0, 0, 11, 1));
            is(0, x.look(0));
            is(0, x.boat(0, 0, 0, 1));
            is(1, x.boat(0, 0, 11, 0));
            is(2, x.boat(0, 0, 1, 0));
            is(3, x.boat(0, 0, 10, 1));
        });
        edge(3, "SKIN 0 .. 9 (0 at first)", () -> {
            GravyBoats x = usedBoat();
            is(0, x.boat(1, 20, 5, 1));
            is(0, x.of(0, 4));
        });
        edge(3, "LANDED (how often, 0 at first).", () -> {
            GravyBoats x = usedBoat();
            is(0, x.boat(1, 20, 5, 1));
            is(0, x.of(0, 5));
        });
        edge(3, "whatever else is told but THE LAW, REACH and what is told for thought", () -> {
            GravyBoats x = new GravyBoats();
            x.minutes(2);
            none(x.boat(5, 0, 5, 1));
            is(2, x.look(11));
            is(0, x.boat(4, 0, 5, 1));
            is(0, x.look(11));
        });
    }

    /** BOAT 0 had SKIN and had landed before THE IMAGE without any BOAT was gone back to. */
    private GravyBoats usedBoat() {
        GravyBoats x = lawful(STAY);
        x.image(true);
        x.boat(0, 9, 10, 1);
        x.act(0, 0, 11);
        x.set(6, 0, 9);
        is(1, x.of(0, 5));
        yes(x.image(false));
        is(0, x.look(0));
        return x;
    }

    private void boatBounds() {
        edge(3, "KINDS 0 .. 4 (gravy, capers, mint, flour, sauce).", () -> {
            GravyBoats x = new GravyBoats();
            none(x.boat(-1, 0, 5, 1));
            none(x.boat(5, 0, 5, 1));
            none(x.boat(MIN, 0, 5, 1));
            none(x.boat(MAX, 0, 5, 1));
            is(0, x.boat(0, 0, 5, 1));
            is(1, x.boat(4, 0, 5, 1));
        });
        edge(3, "FULL 0 .. 99", () -> {
            GravyBoats x = new GravyBoats();
            none(x.boat(0, -1, 5, 1));
            none(x.boat(0, 100, 5, 1));
            none(x.boat(0, MIN, 5, 1));
            none(x.boat(0, MAX, 5, 1));
            is(0, x.boat(0, 0, 5, 1));
            is(1, x.boat(0, 99, 5, 1));
            is(0, x.of(0, 1));
            is(99, x.of(1, 1));
        });
        edge(3, "AT a SEAT", () -> {
            GravyBoats x = new GravyBoats();
            for (int head = 0; head < 2; head++) {
                none(x.boat(0, 0, -1, head));
                none(x.boat(0, 0, 12, head));
                none(x.boat(0, 0, MIN, head));
                none(x.boat(0, 0, MAX, head));
            }
            is(0, x.boat(0, 0, 0, 1));
            is(1, x.boat(0, 0, 11, 0));
            is(0, x.of(0, 2));
            is(11, x.of(1, 2));
        });
        edge(3, "HEAD 1 (to SHORE 11), 0 (to SHORE 0)", () -> {
            GravyBoats x = lawful(ON);
            none(x.boat(0, 0, 5, -1));
            none(x.boat(0, 0, 5, 2));
            none(x.boat(0, 0, 5, MIN));
            none(x.boat(0, 0, 5, MAX));
            is(0, x.boat(0, 0, 5, 1));
            is(1, x.boat(0, 0, 5, 0));
            x.minutes(1);
            is(6, x.of(0, 2));
            is(4, x.of(1, 2));
        });
    }

    // ---- promise 4

    private void setSeats() {
        edge(4, "What 0 STEADY", () -> settable(0, 0, 9));
        edge(4, "1 THIRST", () -> settable(1, 0, 9));
        edge(4, "2 LOVE", () -> settable(2, -9, 9));
        edge(4, "3 PIRATE", () -> settable(3, 0, 1));
        edge(4, "4 STAIN of SEAT who", () -> settable(4, 0, 999));
        edge(4, "Of a SEAT: STEADY 0 .. 9 (5 at first)", () -> beyond(0, -1, 10));
        edge(4, "THIRST 0 .. 9 (0 at first)", () -> beyond(1, -1, 10));
        edge(4, "LOVE -9 .. 9 (0 at first; above 0: for SHORE 11)", () -> beyond(2, -10, 10));
        edge(4, "PIRATE 0, 1 (0 at first)", () -> beyond(3, -1, 2));
        edge(4, "STAIN 0 .. 999 (0 at first)", () -> beyond(4, -1, 1000));
        edge(4, "SEATS 0 .. 11 in a row, the SHORES are 0 and 11.", () -> {
            GravyBoats x = new GravyBoats();
            for (int what = 0; what < 5; what++) {
                no(x.set(what, -1, 1));
                no(x.set(what, 12, 1));
                no(x.set(what, MIN, 1));
                no(x.set(what, MAX, 1));
                yes(x.set(what, 0, 1));
                yes(x.set(what, 11, 1));
                is(1, x.seat(0, what));
                is(1, x.seat(11, what));
                is(what == 0 ? 5 : 0, x.seat(1, what));
            }
        });
    }

    private void settable(int what, int least, int greatest) {
        GravyBoats x = new GravyBoats();
        for (int v : new int[] {least, greatest, least + 1, greatest - 1}) {
            yes(x.set(what, 4, v));
            is(v, x.seat(4, what));
        }
        for (int other = 0; other < 5; other++) {
            is(other == 0 ? 5 : 0, x.seat(5, other));
            is(other == what ? greatest - 1 : other == 0 ? 5 : 0, x.seat(4, other));
        }
    }

    private void beyond(int what, int below, int above) {
        GravyBoats x = new GravyBoats();
        yes(x.set(what, 4, 1));
        for (int v : new int[] {below, above, MIN, MAX}) {
            no(x.set(what, 4, v));
            is(1, x.seat(4, what));
        }
        yes(x.set(what, 4, below + 1));
        yes(x.set(what, 4, above - 1));
    }

    private void setBoats() {
        edge(4, "5 FULL", () -> {
            GravyBoats x = boats(2);
            yes(x.set(5, 1, 0));
            is(0, x.of(1, 1));
            yes(x.set(5, 1, 99));
            is(99, x.of(1, 1));
            is(50, x.of(0, 1));
        });
        edge(4, "6 SKIN of BOAT who", () -> {
            GravyBoats x = boats(2);
            yes(x.set(6, 1, 9));
            is(9, x.of(1, 4));
            yes(x.set(6, 1, 0));
            is(0, x.of(1, 4));
            yes(x.set(6, 0, 1));
            is(0, x.of(1, 4));
        });
        edge(4, "FULL 0 .. 99", () -> {
            GravyBoats x = boats(1);
            for (int v : new int[] {-1, 100, MIN, MAX}) {
                no(x.set(5, 0, v));
                is(50, x.of(0, 1));
            }
        });
        edge(4, "SKIN 0 .. 9 (0 at first)", () -> {
            GravyBoats x = boats(1);
            for (int v : new int[] {-1, 10, MIN, MAX}) {
                no(x.set(6, 0, v));
                is(0, x.of(0, 4));
            }
        });
        edge(4, "BOATS 0 .. 7 as they come: KIND", () -> {
            GravyBoats x = new GravyBoats();
            for (int boats = 0; boats <= 8; boats++) {
                for (int what = 5; what <= 6; what++) {
                    no(x.set(what, boats, 1));
                    no(x.set(what, -1, 1));
                    is(boats > 0 ? 1 : 0, x.set(what, boats - 1, 1) ? 1 : 0);
                }
                x.boat(0, 0, 5, 1);
            }
            no(x.set(5, MIN, 1));
            no(x.set(6, MAX, 1));
        });
    }

    private void setOthers() {
        edge(4, "7 FOG (who not asked)", () -> {
            GravyBoats x = new GravyBoats();
            int v = 0;
            for (int who : new int[] {0, -1, 8, 11, 12, MIN, MAX}) {
                yes(x.set(7, who, ++v));
                is(v, x.look(3));
            }
        });
        edge(4, "FOG 0 .. 9 (0 at first)", () -> {
            GravyBoats x = new GravyBoats();
            yes(x.set(7, 0, 9));
            for (int v : new int[] {-1, 10, MIN, MAX}) {
                no(x.set(7, 0, v));
                is(9, x.look(3));
            }
            yes(x.set(7, 0, 0));
            is(0, x.look(3));
        });
        edge(4, ": true; false if one can't be, or another what.", () -> {
            GravyBoats x = boats(1);
            String before = table(x);
            for (int what : new int[] {-1, 8, 9, MIN, MAX}) {
                for (int v = 0; v < 2; v++) {
                    no(x.set(what, 0, v));
                }
            }
            no(x.set(0, 12, 0));
            no(x.set(5, 1, 0));
            no(x.set(7, 0, 10));
            yes(before.equals(table(x)));
        });
        edge(4, "whatever else is told but THE LAW, REACH and what is told for thought", () -> {
            for (int what = 0; what < 8; what++) {
                GravyBoats x = boats(1);
                x.minutes(2);
                no(x.set(what, 0, 1000));
                no(x.set(-1, 0, 0));
                is(2, x.look(11));
                yes(x.set(what, 0, 0));
                is(0, x.look(11));
            }
        });
    }

    // ---- promise 5

    private void pass() {
        edge(5, "What 0 to PASS BOAT who to SEAT v", () -> {
            GravyBoats x = boats(2);
            yes(x.act(0, 1, 4));
            is(4, x.of(1, 2));
            is(5, x.of(0, 2));
            yes(x.act(0, 0, 6));
            is(6, x.of(0, 2));
            for (int who : new int[] {2, 3, 8, -1, MIN, MAX}) {
                for (int seat = 0; seat < 12; seat++) {
                    no(x.act(0, who, seat));
                }
            }
        });
        edge(5, "By hand: to PASS a BOAT to a SEAT that its own reaches (REACH", () -> {
            GravyBoats x = boats(1);
            lines(x, 3, 2, "seat 5 to 9;seat 2 to 5;");
            for (int seat : new int[] {5, 3, 7, 8, 10, 0, 11}) {
                no(x.act(0, 0, seat));
            }
            for (int seat : new int[] {4, 6, 9, 2}) {
                yes(x.act(0, 0, seat));
                is(seat, x.of(0, 2));
                yes(x.act(0, 0, 5));
            }
            lines(x, 3, 0, "");
            no(x.act(0, 0, 9));
        });
        edge(5, "SEATS 0 .. 11 in a row, the SHORES are 0 and 11.", () -> {
            GravyBoats x = new GravyBoats();
            x.boat(0, 9, 0, 1);
            x.boat(0, 9, 11, 0);
            no(x.act(0, 0, -1));
            no(x.act(0, 0, 11));
            no(x.act(0, 1, 12));
            no(x.act(0, 1, 0));
            // as a shift they would be 1 and 10
            for (int seat : new int[] {33, 42, -31, -22, MIN, MAX}) {
                no(x.act(0, 0, seat));
                no(x.act(0, 1, seat));
            }
            is(0, x.of(0, 2));
            is(11, x.of(1, 2));
            no(x.act(2, -1, 0));
            no(x.act(2, 12, 0));
            no(x.act(2, MIN, 0));
            no(x.act(2, MAX, 0));
        });
        edge(5, "; nothing poured or spilt; may land)", () -> {
            GravyBoats x = lawful("pours 99;spills 1000;passes 0;");
            x.boat(0, 30, 5, 1);
            x.set(3, 5, 1);
            x.set(2, 5, 4);
            x.set(7, 0, 9);
            yes(x.act(0, 0, 6));
            boat(x, 0, 30, 6, 1, 0, 0);
            is(0, x.seat(6, 4));
            is(4, x.seat(5, 2));
            is(0, x.look(1));
            is(0, x.look(6));
            is(0, x.look(4));
            is(1, x.look(5));
            line(x, 0, 0, 3, 0, 6);
        });
        edge(5, "3: the SEAT", () -> {
            GravyBoats x = boats(2);
            x.minutes(3);
            int lines = x.look(5);
            int seat = x.of(1, 2);
            yes(x.act(0, 1, seat - 1));
            is(lines + 1, x.look(5));
            line(x, lines, 3, 3, 1, seat - 1);
        });
    }

    private void passLands() {
        edge(5, "Is it then at the SHORE of its HEAD, it lands", () -> {
            GravyBoats x = new GravyBoats();
            x.boat(2, 30, 10, 1);
            x.boat(3, 40, 1, 0);
            x.boat(4, 50, 1, 1);
            yes(x.act(0, 0, 11));
            yes(x.act(0, 1, 0));
            yes(x.act(0, 2, 0));
            boat(x, 0, 0, 11, 1, 0, 1);
            boat(x, 1, 0, 0, 0, 0, 1);
            boat(x, 2, 50, 0, 1, 0, 0);
            is(30, x.got(11, 2));
            is(40, x.got(0, 3));
            is(0, x.got(0, 4));
            is(5, x.look(5));
            line(x, 0, 0, 3, 0, 11);
            line(x, 1, 0, 2, 0, 30);
            line(x, 2, 0, 3, 1, 0);
            line(x, 3, 0, 2, 1, 40);
            line(x, 4, 0, 3, 2, 0);
        });
        edge(5, "Is it then at the SHORE of its HEAD, it lands", () -> {
            GravyBoats x = new GravyBoats();
            x.boat(2, 30, 10, 1);
            yes(x.act(0, 0, 11));
            no(x.act(0, 0, 11));
            yes(x.act(0, 0, 10));
            yes(x.act(0, 0, 11));
            is(2, x.of(0, 5));
            is(30, x.got(11, 2));
        });
        edge(5, "GOT of that SHORE and its KIND FULL less SKIN (0 at least) more", () -> {
            int[][] cases = {{9, 8, 1}, {9, 9, 0}, {8, 9, 0}, {0, 9, 0}, {99, 0, 99}, {0, 0, 0}};
            for (int[] c : cases) {
                GravyBoats x = new GravyBoats();
                x.boat(1, c[0], 10, 1);
                x.set(6, 0, c[1]);
                yes(x.act(0, 0, 11));
                is(c[2], x.got(11, 1));
                boat(x, 0, 0, 11, 1, 0, 1);
                line(x, 1, 0, 2, 0, c[2]);
            }
        });
        edge(5, "has it a line in VOYAGES: FULL is N of that, HEAD the other one.", () -> {
            GravyBoats x = boats(2);
            lines(x, 1, 1, "boat 0 again 99;");
            lines(x, 3, 1, "seat 5 to 11;");
            yes(x.act(0, 0, 11));
            yes(x.act(0, 1, 11));
            boat(x, 0, 99, 11, 0, 0, 1);
            boat(x, 1, 0, 11, 1, 0, 1);
        });
    }

    private void pour() {
        edge(5, "1 to POUR v (1 .. FULL) from it", () -> {
            GravyBoats x = boats(2);
            x.set(5, 1, 7);
            for (int v : new int[] {0, -1, 8, MIN, MAX}) {
                no(x.act(1, 1, v));
                is(7, x.of(1, 1));
            }
            yes(x.act(1, 1, 1));
            is(6, x.of(1, 1));
            no(x.act(1, 1, 7));
            yes(x.act(1, 1, 6));
            is(0, x.of(1, 1));
            no(x.act(1, 1, 1));
            no(x.act(1, 1, 0));
            is(50, x.of(0, 1));
            no(x.act(1, 2, 1));
            no(x.act(1, -1, 1));
            no(x.act(1, MIN, 1));
            no(x.act(1, MAX, 1));
        });
        edge(5, "to POUR n from one at its SEAT (DRUNK more)", () -> {
            GravyBoats x = boats(1);
            x.set(3, 5, 1);
            x.set(2, 5, 3);
            yes(x.act(1, 0, 20));
            is(20, x.look(1));
            yes(x.act(1, 0, 30));
            is(50, x.look(1));
            is(3, x.seat(5, 2));
            is(2, x.look(5));
            line(x, 0, 0, 0, 0, 20);
            line(x, 1, 0, 0, 0, 30);
        });
        edge(5, "DRUNK (an int, 0 at first).", () -> {
            GravyBoats x = boats(1);
            for (int i = 1; i <= 110; i++) {
                yes(x.set(5, 0, 99));
                yes(x.act(1, 0, 99));
            }
            is(10890, x.look(1));
        });
    }

    private void salt() {
        edge(5, "2 to SALT SEAT who (STAIN above 0)", () -> {
            GravyBoats x = new GravyBoats();
            no(x.act(2, 0, 0));
            x.set(4, 0, 1);
            x.set(4, 11, 999);
            no(x.act(2, 1, 0));
            yes(x.act(2, 0, MIN));
            yes(x.act(2, 11, MAX));
            is(0, x.seat(0, 4));
            is(0, x.seat(11, 4));
            no(x.act(2, 0, 0));
            no(x.act(2, 11, 0));
        });
        edge(5, "to SALT a SEAT", () -> {
            GravyBoats x = new GravyBoats();
            for (int seat = 0; seat < 12; seat++) {
                x.set(4, seat, seat + 1);
            }
            yes(x.act(2, 7, 0));
            for (int seat = 0; seat < 12; seat++) {
                is(seat == 7 ? 0 : seat + 1, x.seat(seat, 4));
            }
            is(0, x.look(1));
        });
        edge(5, "4: the STAIN of before).", () -> {
            GravyBoats x = new GravyBoats();
            x.set(4, 11, 999);
            x.set(4, 3, 1);
            x.act(2, 11, 0);
            x.act(2, 3, 0);
            x.act(2, 3, 0);
            is(2, x.look(5));
            line(x, 0, 0, 4, 11, 999);
            line(x, 1, 0, 4, 3, 1);
        });
    }

    private void speak() {
        edge(5, "3 to let one SPEAK v (1 .. 9) minutes", () -> {
            GravyBoats x = new GravyBoats();
            for (int v : new int[] {0, -1, 10, MIN, MAX}) {
                no(x.act(3, 0, v));
                is(0, x.look(2));
            }
            yes(x.act(3, 0, 9));
            is(9, x.look(2));
            yes(x.act(3, -1, 1));
            is(1, x.look(2));
            yes(x.act(3, MAX, 5));
            is(5, x.look(2));
            is(0, x.look(5));
        });
        edge(5, "to let one SPEAK n minutes.", () -> {
            for (int n = 1; n <= 9; n += 8) {
                GravyBoats x = lawful(ON);
                x.boat(0, 50, 0, 1);
                yes(x.act(3, 0, n));
                x.minutes(n);
                boat(x, 0, 50, 0, 1, n, 0);
                x.minutes(1);
                boat(x, 0, 50, 1, 1, n, 0);
            }
        });
        edge(5, "TALK 0 .. 9 (minutes yet that someone speaks, 0 at first)", () -> {
            GravyBoats x = new GravyBoats();
            yes(x.act(3, 0, 9));
            yes(x.act(3, 0, 9));
            is(9, x.look(2));
            x.minutes(9);
            is(0, x.look(2));
            x.minutes(1);
            is(0, x.look(2));
        });
    }

    private void actOthers() {
        edge(5, ": true; false if it can't be, or another what.", () -> {
            GravyBoats x = boats(1);
            x.set(4, 4, 5);
            String before = table(x);
            for (int what : new int[] {-1, 4, 5, MIN, MAX}) {
                no(x.act(what, 0, 4));
                no(x.act(what, 4, 1));
            }
            no(x.act(0, 0, 7));
            no(x.act(1, 0, 51));
            no(x.act(2, 5, 0));
            no(x.act(3, 0, 10));
            yes(before.equals(table(x)));
            is(0, x.look(11));
            no(x.undo());
        });
        edge(5, "BOATS 0 .. 7 as they come: KIND", () -> {
            GravyBoats x = new GravyBoats();
            for (int n = 0; n <= 8; n++) {
                for (int seat = 0; seat < 12; seat++) {
                    no(x.act(0, n, seat));
                }
                no(x.act(1, n, 1));
                no(x.act(1, n, 0));
                x.boat(0, 50, 5, 1);
            }
            yes(x.act(0, 7, 4));
            yes(x.act(1, 7, 50));
            yes(x.act(0, 0, 6));
        });
        edge(5, "THE BOOK (150 lines; no more then)", () -> {
            GravyBoats x = new GravyBoats();
            x.boat(0, 99, 10, 1);
            x.boat(0, 99, 5, 1);
            for (int i = 0; i < 74; i++) {
                x.act(0, 1, 6 - i % 2);
                x.act(1, 1, 1);
            }
            is(148, x.look(5));
            yes(x.act(1, 1, 1));
            is(149, x.look(5));
            yes(x.act(0, 0, 11));
            is(150, x.look(5));
            line(x, 149, 0, 3, 0, 11);
            is(99, x.got(11, 0));
            x.set(4, 5, 7);
            yes(x.act(2, 5, 0));
            yes(x.act(1, 1, 24));
            is(150, x.look(5));
            none(x.book(150, 0));
            is(99, x.look(1));
            is(0, x.seat(5, 4));
        });
    }
}
