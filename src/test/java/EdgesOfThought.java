/** Promises 15 to 35: what is in thought. */
final class EdgesOfThought extends Edges {
    EdgesOfThought(Sentences sentences) {
        super(sentences);
    }

    @Override
    void all() {
        goes();
        goesHalves();
        goesSums();
        goesAsMinutes();
        goesAsTold();
        brings();
        bringsWhen();
        hands();
        letter();
        both();
        candles();
        stained();
        convoy();
        meets();
        flag();
        spoons();
        treaty();
        gives();
        way();
        cloth();
        free();
        report();
        sprouts();
        jar();
        stowed();
        game();
    }

    // ---- promise 15

    private void goes() {
        edge(15, "GOES for n (1 .. 60) MINUTES", () -> {
            GravyBoats x = lawful("passes 0;pours 1;");
            x.boat(0, 99, 5, 1);
            is(1, x.goes(1, 1));
            is(59, x.goes(59, 1));
            is(60, x.goes(60, 1));
            for (int what = 0; what < 4; what++) {
                for (int n : new int[] {0, -1, 61, MIN, MAX}) {
                    none(x.goes(n, what));
                }
            }
        });
        edge(15, "NONE if one can't be, or another what.", () -> {
            GravyBoats x = boats(1);
            for (int what : new int[] {-1, 4, 5, MIN, MAX}) {
                none(x.goes(1, what));
                none(x.goes(60, what));
            }
            for (int what = 0; what < 4; what++) {
                none(x.goes(0, what));
                none(x.goes(61, what));
            }
        });
        edge(15, "IN THOUGHT (nothing of it stays; no DRAWS", () -> {
            GravyBoats x = lawful("passes 700;pours 1;spills 700;");
            x.boat(0, 99, 5, 1);
            x.boat(1, 50, 1, 0);
            x.boat(2, 50, 3, 0);
            x.set(3, 3, 1);
            x.set(2, 3, 5);
            x.set(4, 7, 9);
            lines(x, 1, 1, "boat 1 again 9;");
            lines(x, 2, 5, "at 1 fog 3;at 2 talk 4;at 1 salt 7;at 1 fill 0 7;at 3 turn 0;");
            x.minutes(1);
            x.undo();
            x.state(99);
            String before = table(x);
            for (int what = 0; what < 4; what++) {
                x.goes(60, what);
            }
            yes(before.equals(table(x)));
            is(99, x.look(6));
            x.minutes(1);
            x.goes(60, 0);
            is(1, x.look(11));
            yes(x.undo());
            yes(before.equals(table(x)));
        });
    }

    private void goesHalves() {
        edge(15, ": it passes, spills, if that is 500 at least).", () -> {
            int[][] cases = {{500, 500, 3, 0}, {499, 500, 0, 1}, {500, 499, 0, 0}, {1000, 1000, 3, 0}, {0, 0, 0, 1}};
            for (int[] c : cases) {
                GravyBoats x = lawful("passes " + c[0] + ";pours 0;spills " + c[1] + ";");
                x.boat(0, 9, 5, 1);
                is(c[2], x.goes(1, 2));
                is(c[3], x.goes(1, 3));
            }
        });
        edge(15, ": it passes, spills, if that is 500 at least).", () -> {
            // whatever STATE is
            for (int draw : new int[] {0, 499, 500, 999}) {
                GravyBoats x = lawful("passes 500;pours 0;spills 0;");
                x.boat(0, 9, 10, 1);
                x.state(drawing(draw));
                is(9, x.goes(1, 0));
                is(drawing(draw), x.look(6));
            }
        });
    }

    private void goesSums() {
        edge(15, "GOES what 0 GOT, 1 DRUNK, 2 STAINS, 3 SKINS.", () -> {
            GravyBoats x = lawful("passes 1000 when seat<9;passes 0;pours 2;spills 500 when seat=3;spills 0;");
            x.boat(0, 20, 2, 1);
            x.boat(1, 20, 9, 1);
            x.boat(2, 20, 1, 0);
            is(18, x.goes(1, 0));
            is(6, x.goes(1, 1));
            is(6, x.goes(1, 2));
            is(1, x.goes(1, 3));
        });
        edge(15, "GOT of all, DRUNK, STAINS of all, SKINS of all then.", () -> {
            // with what there is already, of both SHORES, all KINDS, all SEATS, all BOATS
            GravyBoats x = lawful("passes 0;pours 0;");
            for (int kind = 0; kind < 4; kind++) {
                x.boat(kind, 10, 10, 1);
                x.boat(kind + 1, 20, 1, 0);
                x.act(0, 2 * kind, 11);
                x.act(0, 2 * kind + 1, 0);
            }
            x.set(4, 0, 999);
            x.set(4, 11, 999);
            x.set(4, 5, 1);
            for (int i = 0; i < 8; i++) {
                x.set(6, i, 9);
            }
            x.set(5, 3, 7);
            x.act(1, 3, 7);
            is(120, x.goes(1, 0));
            is(7, x.goes(1, 1));
            is(1999, x.goes(1, 2));
            is(72, x.goes(1, 3));
            is(120, x.goes(60, 0));
        });
        edge(15, "GOT of all, DRUNK, STAINS of all, SKINS of all then.", () -> {
            // by VOYAGES, DINNER and TALK as they are told
            GravyBoats x = lawful(ON);
            x.boat(0, 30, 10, 1);
            lines(x, 1, 1, "boat 0 again 9;");
            is(30, x.goes(11, 0));
            is(39, x.goes(12, 0));
            x.act(3, 0, 2);
            is(2, x.goes(2, 3));
            is(0, x.goes(3, 3));
            is(28, x.goes(3, 0));
            lines(x, 2, 1, "at 2 fill 0 99;");
            is(99, x.goes(3, 0));
        });
    }

    /** A MINUTE in thought is held to the same bounds. */
    private void goesAsMinutes() {
        edge(15, "(b) Is TALK above 0, it is one less", () -> {
            GravyBoats x = lawful(ON);
            x.boat(0, 50, 10, 1);
            x.act(3, 0, 9);
            is(0, x.goes(9, 0));
            is(41, x.goes(10, 0));
            is(9, x.look(2));
        });
        edge(15, "and each BOAT has SKIN one more (9 at most)", () -> {
            GravyBoats x = boats(3);
            x.set(6, 0, 9);
            x.set(6, 1, 8);
            x.act(3, 0, 2);
            is(9 + 9 + 1, x.goes(1, 3));
            is(9 + 9 + 2, x.goes(2, 3));
        });
        edge(15, "(c) Else BOAT by BOAT not at the SHORE of its HEAD", () -> {
            GravyBoats x = lawful("passes 0;pours 1;");
            x.boat(0, 50, 10, 1);
            x.act(0, 0, 11);
            x.set(5, 0, 9);
            is(0, x.goes(60, 1));
            is(0, x.goes(60, 3));
        });
        edge(15, "pours is asked, so much, or FULL, if that is less, is poured: FULL less, DRUNK more", () -> {
            GravyBoats x = lawful("passes 0;pours 7;");
            x.boat(0, 20, 5, 1);
            is(14, x.goes(2, 1));
            is(20, x.goes(3, 1));
            is(20, x.goes(60, 1));
            x.set(3, 5, 1);
            is(0, x.goes(60, 1));
        });
        edge(15, "his LOVE one more towards 0, if it is not 0)", () -> {
            for (int love = -9; love <= 9; love++) {
                GravyBoats x = lawful("passes 1000 when love=0;passes 0;pours 1;spills 0;");
                x.boat(0, 50, 10, 1);
                x.set(3, 10, 1);
                x.set(2, 10, love);
                int minutes = Math.max(1, Math.abs(love));
                is(50 - minutes - (minutes - 1), x.goes(minutes, 0));
                is(minutes > 1 ? 0 : 49, x.goes(Math.max(1, minutes - 1), 0));
                is(love, x.seat(10, 2));
            }
        });
        edge(15, "STAIN of that SEAT so much more (999 at most)", () -> {
            GravyBoats x = lawful("passes 1000;pours 0;spills 1000 when seat=6;spills 0;");
            x.boat(0, 9, 5, 1);
            for (int stain : new int[] {995, 996, 997, 999}) {
                x.set(4, 6, stain);
                is(Math.min(999, stain + 3), x.goes(1, 2));
            }
        });
        edge(15, "else it stays: SKIN one more (9 at most).", () -> {
            GravyBoats x = lawful(STAY);
            x.boat(0, 9, 5, 1);
            is(8, x.goes(8, 3));
            is(9, x.goes(9, 3));
            is(9, x.goes(10, 3));
            is(9, x.goes(60, 3));
        });
    }

    private void goesAsTold() {
        edge(15, "A MINUTE. (a) Line by line of DINNER for it", () -> {
            GravyBoats x = lawful("passes 1000 when fog=5;passes 0;pours 0;spills 0;");
            x.boat(0, 50, 10, 1);
            x.set(4, 3, 999);
            lines(x, 2, 5, "at 3 fog 4;at 3 fog 5;at 4 fog 0;at 2 salt 3;at 3 fill 0 99;");
            is(0, x.goes(3, 0));
            is(99, x.goes(4, 0));
            is(999, x.goes(2, 2));
            is(0, x.goes(3, 2));
            is(0, x.look(5));
            x.minutes(4);
            is(99, x.goes(1, 0));
        });
        edge(15, "of several for one the last.)", () -> {
            GravyBoats x = lawful(ON);
            x.boat(0, 50, 10, 1);
            lines(x, 1, 3, "boat 0 again 9;boat 0 again 3;boat 0 again 7;");
            is(50, x.goes(11, 0));
            is(57, x.goes(12, 0));
        });
        edge(15, "turn: HEAD is the other one.", () -> {
            GravyBoats x = lawful(ON);
            x.boat(0, 50, 5, 1);
            lines(x, 2, 1, "at 0 turn 0;");
            is(0, x.goes(4, 0));
            is(50, x.goes(5, 0));
            is(1, x.of(0, 3));
        });
    }

    // ---- promise 16

    private void brings() {
        edge(16, "BRINGS what 0 how much, 1 behind how many MINUTES.", () -> {
            GravyBoats x = lawful(ON);
            x.boat(0, 30, 10, 1);
            x.boat(0, 40, 3, 0);
            x.set(6, 1, 9);
            is(30, x.brings(0, 0));
            is(1, x.brings(0, 1));
            is(31, x.brings(1, 0));
            is(3, x.brings(1, 1));
        });
        edge(16, "NONE if it does not land, there is none such, or another what.", () -> {
            GravyBoats x = lawful(STAY);
            for (int n = 0; n <= 8; n++) {
                for (int what = 0; what < 2; what++) {
                    none(x.brings(n, what));
                    none(x.brings(-1, what));
                }
                x.boat(0, 30, 5, 1);
            }
            none(x.brings(0, 0));
            none(x.brings(7, 1));
            none(x.brings(MIN, 0));
            none(x.brings(MAX, 0));
            lines(x, 0, 3, ON);
            is(30, x.brings(7, 0));
            for (int what : new int[] {-1, 2, MIN, MAX}) {
                none(x.brings(7, what));
            }
            // landed already, and it does not set out again
            GravyBoats y = lawful(ON);
            y.boat(0, 30, 10, 1);
            y.minutes(1);
            none(y.brings(0, 0));
            none(y.brings(0, 1));
        });
        edge(16, "IN THOUGHT (nothing of it stays; no DRAWS", () -> {
            GravyBoats x = lawful("passes 700;pours 1;spills 700;");
            x.boat(0, 99, 5, 1);
            x.boat(1, 50, 1, 0);
            x.set(3, 5, 1);
            x.set(2, 5, 5);
            lines(x, 2, 2, "at 1 fog 3;at 2 talk 4;");
            x.state(99);
            String before = table(x);
            is(10, x.brings(0, 1));
            is(1, x.brings(1, 1));
            yes(before.equals(table(x)));
            is(0, x.look(11));
        });
        edge(16, ": it passes, spills, if that is 500 at least).", () -> {
            GravyBoats x = lawful("passes 500;pours 0;spills 499;");
            x.boat(0, 30, 10, 1);
            is(30, x.brings(0, 0));
            lines(x, 0, 3, "passes 500;pours 0;spills 500;");
            is(20, x.brings(0, 0));
            lines(x, 0, 3, "passes 499;pours 0;spills 500;");
            none(x.brings(0, 0));
        });
    }

    private void bringsWhen() {
        edge(16, "(within 60 MINUTES; not: NONE)", () -> {
            for (int late = 57; late <= 59; late++) {
                GravyBoats x = lawful("passes 1000 when minute>" + late + ";passes 0;pours 0;spills 0;");
                x.boat(0, 30, 10, 1);
                is(late < 59 ? late + 2 : -1, x.brings(0, 1));
                is(late < 59 ? 21 : -1, x.brings(0, 0));
            }
        });
        edge(16, "BRINGS of a BOAT: what it would bring, when it lands first", () -> {
            GravyBoats x = lawful(ON);
            x.boat(0, 30, 10, 1);
            lines(x, 1, 1, "boat 0 again 99;");
            is(30, x.brings(0, 0));
            is(1, x.brings(0, 1));
            x.minutes(1);
            is(99, x.brings(0, 0));
            is(11, x.brings(0, 1));
            // FULL less SKIN, 0 at least: nothing is not NONE
            x.set(5, 0, 8);
            x.set(6, 0, 9);
            is(0, x.brings(0, 0));
            is(11, x.brings(0, 1));
            x.set(6, 0, 7);
            is(1, x.brings(0, 0));
        });
        edge(16, "GOT of that SHORE and its KIND FULL less SKIN (0 at least) more", () -> {
            int[][] cases = {{9, 8, 1}, {9, 9, 0}, {8, 9, 0}, {0, 9, 0}, {0, 0, 0}, {99, 0, 99}};
            for (int[] c : cases) {
                GravyBoats x = lawful(ON);
                x.boat(1, c[0], 10, 1);
                x.set(6, 0, c[1]);
                is(c[2], x.brings(0, 0));
                is(1, x.brings(0, 1));
                is(0, x.got(11, 1));
            }
        });
        edge(16, "BOATS 0 .. 7 as they come: KIND", () -> {
            GravyBoats x = lawful(ON);
            for (int n = 0; n < 8; n++) {
                none(x.brings(n, 0));
                x.boat(0, 10 + n, 10, 1);
                is(10 + n, x.brings(n, 0));
            }
            none(x.brings(8, 0));
        });
        edge(16, "by MINUTES as they go; behind how many.", () -> {
            GravyBoats x = lawful("passes 1000;pours 1 when minute>1;pours 0;spills 0;");
            x.boat(0, 30, 7, 1);
            x.act(3, 0, 2);
            lines(x, 2, 1, "at 3 talk 1;");
            is(7, x.brings(0, 1));
            is(30 - 4 - 3, x.brings(0, 0));
            // a BOAT that another one's pour would hinder
            GravyBoats y = lawful("passes 1000 when love=0;passes 0;pours 1;spills 0;");
            y.boat(0, 30, 10, 1);
            y.boat(0, 30, 10, 1);
            y.set(3, 10, 1);
            y.set(2, 10, 3);
            is(2, y.brings(0, 1));
            is(2, y.brings(1, 1));
            y.set(2, 10, 2);
            is(2, y.brings(0, 1));
            is(1, y.brings(1, 1));
        });
    }

    // ---- promise 17

    private void hands() {
        edge(17, "HANDS what 0 passes, 1 STEADY.", () -> {
            GravyBoats x = new GravyBoats();
            is(11, x.hands(0, 11, 0));
            is(55, x.hands(11, 0, 1));
            is(1, x.hands(4, 5, 0));
            is(5, x.hands(4, 5, 1));
        });
        edge(17, "NONE if one can't be, or another what.", () -> {
            GravyBoats x = new GravyBoats();
            for (int what : new int[] {-1, 2, MIN, MAX}) {
                none(x.hands(3, 4, what));
                none(x.hands(3, 3, what));
            }
            for (int what = 0; what < 2; what++) {
                for (int seat : new int[] {-1, 12, MIN, MAX}) {
                    none(x.hands(seat, 3, what));
                    none(x.hands(3, seat, what));
                    none(x.hands(seat, seat, what));
                }
            }
        });
        edge(17, "SEATS 0 .. 11 in a row, the SHORES are 0 and 11.", () -> {
            GravyBoats x = new GravyBoats();
            is(11, x.hands(0, 11, 0));
            is(11, x.hands(11, 0, 0));
            none(x.hands(-1, 11, 0));
            none(x.hands(0, 12, 0));
        });
        edge(17, "HANDS from a SEAT to a SEAT by those side by side and REACH: the fewest passes", () -> {
            GravyBoats x = new GravyBoats();
            for (int seat = 0; seat < 12; seat++) {
                is(0, x.hands(seat, seat, 0));
                is(0, x.hands(seat, seat, 1));
            }
            lines(x, 3, 1, "seat 11 to 0;");
            is(1, x.hands(0, 11, 0));
            is(1, x.hands(11, 0, 0));
            is(2, x.hands(1, 11, 0));
            is(6, x.hands(0, 6, 0));
            is(5, x.hands(0, 7, 0));
            lines(x, 3, 3, "seat 0 to 4;seat 4 to 8;seat 8 to 11;");
            is(3, x.hands(0, 11, 0));
            is(3, x.hands(11, 0, 0));
        });
        edge(17, "of the ways so short that with the most STEADY (of all SEATS on it but the first): how much.", () -> {
            GravyBoats x = new GravyBoats();
            int[] steady = {9, 3, 8, 4};
            for (int i = 0; i < 4; i++) {
                x.set(0, i, steady[i]);
            }
            is(3 + 8 + 4, x.hands(0, 3, 1));
            is(8 + 3 + 9, x.hands(3, 0, 1));
            lines(x, 3, 2, "seat 0 to 2;seat 1 to 3;");
            is(2, x.hands(0, 3, 0));
            is(8 + 4, x.hands(0, 3, 1));
            x.set(0, 1, 9);
            is(9 + 4, x.hands(0, 3, 1));
            is(9 + 9, x.hands(3, 0, 1));
            // a longer way has more, yet it does not count
            lines(x, 3, 3, "seat 0 to 2;seat 1 to 3;seat 0 to 3;");
            is(4, x.hands(0, 3, 1));
            x.set(0, 3, 0);
            is(0, x.hands(0, 3, 1));
        });
    }

    // ---- promise 18

    private void letter() {
        edge(18, "A word of the letter of end 0, 1", () -> {
            GravyBoats x = new GravyBoats();
            is(1, x.letter(0, 3));
            is(1, x.letter(1, 3));
            is(2, x.letter(0, 3));
            is(2, x.letter(1, 4));
            is(1, x.both(0));
            is(1, x.both(1));
        });
        edge(18, "(word NONE: none is then): how many", () -> {
            GravyBoats x = new GravyBoats();
            is(0, x.letter(0, NONE));
            x.letter(0, 1);
            x.letter(1, 1);
            x.letter(1, 2);
            is(0, x.letter(1, NONE));
            is(1, x.both(2));
            is(1, x.letter(1, 7));
            is(2, x.letter(0, 7));
            for (int i = 0; i < 11; i++) {
                x.letter(1, 0);
            }
            none(x.letter(1, 0));
            is(0, x.letter(1, NONE));
            is(1, x.letter(1, 0));
        });
        edge(18, "NONE if one can't be", () -> {
            GravyBoats x = new GravyBoats();
            for (int end : new int[] {-1, 2, MIN, MAX}) {
                none(x.letter(end, 0));
                none(x.letter(end, 9));
                none(x.letter(end, NONE));
            }
            for (int end = 0; end < 2; end++) {
                for (int word : new int[] {-2, 10, MIN, MAX}) {
                    none(x.letter(end, word));
                }
            }
            is(0, x.both(2));
        });
        edge(18, "or there are twelve.", () -> {
            GravyBoats x = new GravyBoats();
            for (int end = 0; end < 2; end++) {
                for (int i = 1; i <= 12; i++) {
                    is(i, x.letter(end, 5));
                }
                none(x.letter(end, 5));
                none(x.letter(end, 0));
            }
            is(12, x.both(0));
            is(12, x.both(2));
        });
        edge(18, "BOTH: letters of the two ends, each up to 12 told words 0 .. 9", () -> {
            GravyBoats x = new GravyBoats();
            is(1, x.letter(0, 0));
            is(2, x.letter(0, 9));
            none(x.letter(0, 10));
            is(0, x.letter(0, -1));
            none(x.letter(0, -2));
        });
    }

    // ---- promise 19

    private GravyBoats letters(String near, String far) {
        GravyBoats x = new GravyBoats();
        for (int i = 0; i < near.length(); i++) {
            x.letter(0, near.charAt(i) - '0');
        }
        for (int i = 0; i < far.length(); i++) {
            x.letter(1, far.charAt(i) - '0');
        }
        return x;
    }

    private void both(String near, String far, int same, int changes, int joint) {
        for (GravyBoats x : new GravyBoats[] {letters(near, far), letters(far, near)}) {
            is(same, x.both(0));
            is(changes, x.both(1));
            is(joint, x.both(2));
        }
    }

    private void both() {
        edge(19, "BOTH what 0 SAME, 1 CHANGES, 2 JOINT.", () -> both("1234", "243", 2, 3, 5));
        edge(19, "NONE for another what.", () -> {
            GravyBoats x = letters("12", "21");
            for (int what : new int[] {-1, 3, MIN, MAX}) {
                none(x.both(what));
            }
        });
        edge(19, "SAME: the longest row of words that is in both in order", () -> {
            is(0, letters("", "").both(0));
            is(0, letters("123", "").both(0));
            is(0, letters("111", "222").both(0));
            is(12, letters("012345678901", "012345678901").both(0));
            is(1, letters("0123456789", "9876543210").both(0));
            is(4, letters("1212121", "2211").both(0));
            is(6, letters("010101010101", "000000999999").both(0));
        });
        edge(19, "CHANGES: the fewest words put in, left out or changed that make one of the other", () -> {
            is(0, letters("", "").both(1));
            is(3, letters("123", "").both(1));
            is(12, letters("", "111111111111").both(1));
            is(12, letters("111111111111", "222222222222").both(1));
            is(0, letters("012345678901", "012345678901").both(1));
            is(1, letters("123", "13").both(1));
            is(1, letters("123", "143").both(1));
            is(2, letters("12", "21").both(1));
            is(2, letters("012345678901", "123456789012").both(1));
        });
        edge(19, "JOINT: the shortest row that has both in order.", () -> {
            is(0, letters("", "").both(2));
            is(3, letters("123", "").both(2));
            is(12, letters("012345678901", "012345678901").both(2));
            is(24, letters("111111111111", "222222222222").both(2));
            is(13, letters("012345678901", "123456789012").both(2));
            is(3, letters("12", "21").both(2));
        });
        edge(19, "BOTH: letters of the two ends, each up to 12 told words 0 .. 9",
            () -> both("000000000009", "999999999990", 1, 12, 23));
    }

    // ---- promise 20

    private void candles(int set, int r, int many, int where) {
        GravyBoats x = new GravyBoats();
        is(many, x.candles(set, r, 0));
        is(where, x.candles(set, r, 1));
    }

    private void candles() {
        edge(20, "CANDLES what 0 how many, 1 where.", () -> candles(0, 2, 3, 1 << 9 | 1 << 4 | 1));
        edge(20, "NONE if one can't be (set of 12 bits), or another what.", () -> {
            GravyBoats x = new GravyBoats();
            for (int what = 0; what < 2; what++) {
                for (int set : new int[] {-1, 4096, MIN, MAX}) {
                    none(x.candles(set, 1, what));
                }
                for (int r : new int[] {-1, 12, MIN, MAX}) {
                    none(x.candles(0, r, what));
                    none(x.candles(4095, r, what));
                }
            }
            for (int what : new int[] {-1, 2, MIN, MAX}) {
                none(x.candles(0, 1, what));
            }
        });
        edge(20, "CANDLES: told SEATS (a set of 12), a candle lights SEATS at r (0 .. 11) or nearer", () -> {
            candles(0, 0, 12, 4095);
            candles(0, 11, 1, 1);
            candles(1, 11, 0, 0);
            candles(1 << 11, 11, 0, 0);
            candles(1, 10, 1, 1 << 1);
            candles(1 << 11, 10, 1, 1);
            candles(4095, 0, 0, 0);
            candles(1 << 5, 6, 0, 0);
            candles(1 << 5, 5, 1, 1 << 6);
        });
        edge(20, "the fewest more candles so that all are lit: how many", () -> {
            candles(4094, 0, 1, 1);
            candles(2047, 0, 1, 1 << 11);
            candles(4094, 1, 0, 0);
            candles(1 << 1 | 1 << 4 | 1 << 7 | 1 << 10, 1, 0, 0);
            candles(1 << 1 | 1 << 4 | 1 << 10, 1, 1, 1 << 7);
        });
        edge(20, "where (a set, of several the least).", () -> {
            candles(0, 5, 2, 1 << 6 | 1);
            candles(0, 6, 1, 1 << 5);
            candles(0, 7, 1, 1 << 4);
            candles(1 << 1 | 1 << 4 | 1 << 10, 2, 1, 1 << 5);
            candles(1 << 1 | 1 << 4, 3, 1, 1 << 8);
            candles(1 << 6, 4, 2, 1 << 7 | 1);
        });
    }

    // ---- promise 21

    private GravyBoats stains(int... stains) {
        GravyBoats x = new GravyBoats();
        for (int i = 0; i < stains.length; i++) {
            yes(x.set(4, i, stains[i]));
        }
        return x;
    }

    private void stained(int many, int greatest, int first, int... stains) {
        GravyBoats x = stains(stains);
        is(many, x.stained(0));
        is(greatest, x.stained(1));
        is(first, x.stained(2));
    }

    private void stained() {
        edge(21, "STAINED what 0 how many, 1 the greatest, 2 its first SEAT.", () -> stained(2, 17, 3, 1, 2, 0, 8, 9));
        edge(21, "NONE if there is none (1, 2), or another what.", () -> {
            stained(0, NONE, NONE);
            GravyBoats x = stains(0, 0, 7);
            for (int what : new int[] {-1, 3, MIN, MAX}) {
                none(new GravyBoats().stained(what));
                none(x.stained(what));
            }
            x.act(2, 2, 0);
            is(0, x.stained(0));
            none(x.stained(1));
            none(x.stained(2));
        });
        edge(21, "STAINED: SEATS with STAIN side by side are one: how many", () -> {
            stained(1, 11988, 0, 999, 999, 999, 999, 999, 999, 999, 999, 999, 999, 999, 999);
            stained(6, 1, 0, 1, 0, 1, 0, 1, 0, 1, 0, 1, 0, 1, 0);
            stained(6, 1, 1, 0, 1, 0, 1, 0, 1, 0, 1, 0, 1, 0, 1);
            // in a row, not in a ring; side by side, not by REACH
            GravyBoats x = stains(1, 0, 0, 0, 0, 0, 0, 0, 0, 0, 0, 1);
            lines(x, 3, 1, "seat 0 to 11;");
            is(2, x.stained(0));
            is(1, x.stained(1));
        });
        edge(21, "the greatest sum of one", () -> {
            stained(3, 10, 2, 9, 0, 4, 3, 2, 1, 0, 8, 1);
            stained(1, 1, 11, 0, 0, 0, 0, 0, 0, 0, 0, 0, 0, 0, 1);
            stained(2, 999, 11, 998, 0, 0, 0, 0, 0, 0, 0, 0, 0, 0, 999);
        });
        edge(21, "its first SEAT (the least).", () -> {
            stained(3, 5, 0, 5, 0, 2, 3, 0, 1, 4);
            stained(3, 5, 2, 4, 0, 2, 3, 0, 1, 4);
            stained(2, 5, 10, 1, 0, 0, 0, 0, 0, 0, 0, 0, 0, 2, 3);
        });
    }

    // ---- promise 22

    private void convoy() {
        edge(22, "A BOAT of CONVOY (seat NONE: none is then): how many", () -> {
            GravyBoats x = new GravyBoats();
            is(0, x.convoy(NONE, 0));
            is(1, x.convoy(3, 1));
            is(2, x.convoy(9, 0));
            is(1, x.meets(0));
            is(0, x.convoy(NONE, 1));
            is(0, x.meets(0));
            is(1, x.convoy(9, 1));
            is(0, x.look(0));
        });
        edge(22, "NONE if one can't be (a SEAT told already)", () -> {
            GravyBoats x = new GravyBoats();
            x.convoy(5, 1);
            x.convoy(7, 0);
            none(x.convoy(5, 1));
            none(x.convoy(5, 0));
            none(x.convoy(7, 1));
            is(3, x.convoy(6, 1));
            none(x.convoy(6, 0));
            is(2, x.meets(0));
            x.convoy(NONE, 0);
            is(1, x.convoy(5, 0));
        });
        edge(22, "or there are eight.", () -> {
            GravyBoats x = new GravyBoats();
            for (int i = 1; i <= 8; i++) {
                is(i, x.convoy(i, i > 4 ? 0 : 1));
            }
            none(x.convoy(99, 0));
            none(x.convoy(0, 1));
            is(16, x.meets(0));
            is(0, x.convoy(NONE, 0));
            is(1, x.convoy(99, 0));
        });
        edge(22, "CONVOY, up to 8 told BOATS on one row (SEAT 0 .. 99, HEAD)", () -> {
            GravyBoats x = new GravyBoats();
            for (int seat : new int[] {-2, 100, MIN, MAX}) {
                none(x.convoy(seat, 0));
                none(x.convoy(seat, 1));
            }
            for (int head : new int[] {-1, 2, MIN, MAX}) {
                none(x.convoy(5, head));
            }
            is(1, x.convoy(0, 1));
            is(2, x.convoy(99, 0));
            is(3, x.convoy(5, 1));
        });
    }

    // ---- promise 23

    private void meets(int many, int twice, int... told) {
        GravyBoats x = new GravyBoats();
        for (int i = 0; i < told.length; i += 2) {
            is(i / 2 + 1, x.convoy(told[i], told[i + 1]));
        }
        is(many, x.meets(0));
        is(twice, x.meets(1));
    }

    private void meets() {
        edge(23, "MEETS what 0 how many, 1 twice the first MINUTE.", () -> meets(2, 7, 10, 1, 20, 0, 5, 0, 13, 1));
        edge(23, "NONE if none (1), or another what.", () -> {
            meets(0, NONE);
            meets(0, NONE, 5, 1);
            GravyBoats x = new GravyBoats();
            x.convoy(1, 1);
            x.convoy(2, 0);
            for (int what : new int[] {-1, 2, MIN, MAX}) {
                none(x.meets(what));
            }
        });
        edge(23, "all go one SEAT a MINUTE for ever", () -> {
            meets(1, 99, 0, 1, 99, 0);
            meets(0, NONE, 0, 0, 99, 1);
            meets(0, NONE, 0, 1, 99, 1);
            meets(0, NONE, 5, 0, 6, 0, 7, 0);
        });
        edge(23, "two that meet (at a SEAT, or between two) pass: MEETS: how many couples meet", () -> {
            meets(1, 2, 4, 1, 6, 0);
            meets(1, 1, 4, 1, 5, 0);
            meets(1, 1, 5, 0, 4, 1);
            // they pass, and meet whoever comes behind
            meets(4, 1, 1, 1, 2, 1, 3, 0, 4, 0);
            meets(16, 1, 1, 1, 2, 1, 3, 1, 4, 1, 5, 0, 6, 0, 7, 0, 8, 0);
            meets(0, NONE, 1, 0, 2, 0, 3, 0, 4, 0, 5, 1, 6, 1, 7, 1, 8, 1);
        });
        edge(23, "the first MINUTE (halves counted: twice it; NONE).", () -> {
            meets(1, 3, 4, 1, 7, 0);
            meets(2, 2, 0, 1, 9, 0, 2, 0);
            meets(2, 4, 9, 0, 0, 1, 5, 1);
            meets(0, NONE, 9, 1, 0, 0);
        });
    }

    // ---- promise 24

    private void flag() {
        edge(24, "A flag for SPOONS (NONE: none is then): how many", () -> {
            GravyBoats x = new GravyBoats();
            is(0, x.flag(NONE));
            is(1, x.flag(7));
            is(2, x.flag(7));
            is(0, x.flag(NONE));
            none(x.spoons(7, 2));
            is(1, x.flag(7));
        });
        edge(24, "NONE if one can't be", () -> {
            GravyBoats x = new GravyBoats();
            for (int spoons : new int[] {-2, 4096, MIN, MAX}) {
                none(x.flag(spoons));
            }
            none(x.spoons(0, 2));
            is(1, x.flag(5));
        });
        edge(24, "or there are ten.", () -> {
            GravyBoats x = new GravyBoats();
            for (int i = 1; i <= 10; i++) {
                is(i, x.flag(i));
            }
            none(x.flag(4095));
            is(9, x.spoons(10, 2));
            is(6, x.spoons(4095, 2));
            is(0, x.flag(NONE));
            is(1, x.flag(4095));
        });
        edge(24, "SPOONS: a flag is 12 spoons (bits)", () -> {
            GravyBoats x = new GravyBoats();
            is(1, x.flag(0));
            is(2, x.flag(4095));
            none(x.flag(4096));
            is(1, x.spoons(1 << 11 | 127, 2));
        });
    }

    // ---- promise 25

    private void spoons() {
        edge(25, "SPOONS what 0 SAID (row 0 the lowest bit; spoons 3 r, 3 r + 1, 3 r + 2), 1 WRONG, 2 NEAREST.", () -> {
            GravyBoats x = new GravyBoats();
            x.flag(0);
            x.flag(4095);
            is(1, x.spoons(7, 0));
            is(2, x.spoons(7 << 3, 0));
            is(4, x.spoons(7 << 6, 0));
            is(8, x.spoons(7 << 9, 0));
            is(0, x.spoons(1 << 2 | 1 << 3, 0));
            is(2, x.spoons(1 << 2 | 1 << 3, 1));
            is(0, x.spoons(1 << 2 | 1 << 3, 2));
        });
        edge(25, "NONE if one can't be, no flag is told (2), or another what.", () -> {
            GravyBoats x = new GravyBoats();
            none(x.spoons(0, 2));
            none(x.spoons(4095, 2));
            is(0, x.spoons(0, 0));
            is(0, x.spoons(0, 1));
            x.flag(9);
            for (int what = 0; what < 3; what++) {
                for (int flag : new int[] {-1, 4096, MIN, MAX}) {
                    none(x.spoons(flag, what));
                }
            }
            for (int what : new int[] {-1, 3, MIN, MAX}) {
                none(x.spoons(0, what));
            }
            is(0, x.spoons(4095, 2));
        });
        edge(25, "SAID of a flag: four rows of three: each row is 1, if two at least are: four bits", () -> {
            GravyBoats x = new GravyBoats();
            int[] said = {0, 0, 0, 1, 0, 1, 1, 1};
            for (int row = 0; row < 4; row++) {
                for (int spoons = 0; spoons < 8; spoons++) {
                    is(said[spoons] << row, x.spoons(spoons << 3 * row, 0));
                    is(15 ^ 1 << row | said[spoons] << row, x.spoons(4095 ^ 7 << 3 * row | spoons << 3 * row, 0));
                }
            }
        });
        edge(25, "WRONG: in how many rows not all three are alike", () -> {
            GravyBoats x = new GravyBoats();
            int[] wrong = {0, 1, 1, 1, 1, 1, 1, 0};
            for (int row = 0; row < 4; row++) {
                for (int spoons = 0; spoons < 8; spoons++) {
                    is(wrong[spoons], x.spoons(spoons << 3 * row, 1));
                }
            }
            is(4, x.spoons(1 | 2 << 3 | 4 << 6 | 6 << 9, 1));
            is(0, x.spoons(4095, 1));
        });
        edge(25, "NEAREST of up to 10 told flags to a flag: which (of several the first told).", () -> {
            GravyBoats x = new GravyBoats();
            int[] flags = {3, 12, 48, 3, 192, 768, 3072, 12, 4095, 0};
            for (int flag : flags) {
                x.flag(flag);
            }
            is(0, x.spoons(3, 2));
            is(1, x.spoons(12, 2));
            is(9, x.spoons(0, 2));
            is(8, x.spoons(4095, 2));
            is(0, x.spoons(1, 2));
            is(0, x.spoons(7, 2));
            is(1, x.spoons(8, 2));
            is(2, x.spoons(3072 | 48 | 4, 2));
            // far from all, and two as far
            GravyBoats y = new GravyBoats();
            y.flag(4095);
            is(0, y.spoons(0, 2));
            y.flag(4094);
            is(1, y.spoons(0, 2));
            y.flag(2047);
            is(1, y.spoons(0, 2));
        });
    }

    // ---- promise 26

    private static int lumps(int n, int most, boolean unlike) {
        int ways = n == 0 ? 1 : 0;
        for (int lump = 1; lump <= most && lump <= n; lump++) {
            ways += lumps(n - lump, unlike ? lump - 1 : lump, unlike);
        }
        return ways;
    }

    private void treaty(int n, int k, int ways, int unlike) {
        GravyBoats x = new GravyBoats();
        is(ways, x.treaty(n, k, 0));
        is(unlike, x.treaty(n, k, 1));
    }

    private void treaty() {
        edge(26, "TREATY what 0 in how many ways, 1 of unlike lumps.", () -> treaty(6, 9, 11, 4));
        edge(26, "NONE if one can't be, or another what.", () -> {
            GravyBoats x = new GravyBoats();
            for (int what = 0; what < 2; what++) {
                for (int n : new int[] {0, -1, 41, MIN, MAX}) {
                    none(x.treaty(n, 1, what));
                    none(x.treaty(n, 9, what));
                }
                for (int k : new int[] {0, -1, 10, MIN, MAX}) {
                    none(x.treaty(1, k, what));
                    none(x.treaty(40, k, what));
                }
            }
            for (int what : new int[] {-1, 2, MIN, MAX}) {
                none(x.treaty(5, 5, what));
            }
        });
        edge(26, "TREATY of n (1 .. 40) and k (1 .. 9)", () -> {
            treaty(1, 1, 1, 1);
            treaty(1, 9, 1, 1);
            treaty(40, 1, 1, 0);
            treaty(40, 9, lumps(40, 9, false), 3);
        });
        edge(26, "in how many ways n grains are lumps of k at most (any order)", () -> {
            treaty(5, 4, 6, 2);
            treaty(5, 5, 7, 3);
            treaty(5, 6, 7, 3);
            treaty(10, 2, 6, 0);
            treaty(10, 3, 14, 0);
            treaty(9, 9, 30, 8);
            treaty(9, 8, 29, 7);
        });
        edge(26, "in how many of unlike lumps (both modulo 1000000007).", () -> {
            treaty(2, 1, 1, 0);
            treaty(2, 2, 2, 1);
            treaty(3, 2, 2, 1);
            treaty(36, 8, lumps(36, 8, false), 1);
            treaty(37, 8, lumps(37, 8, false), 0);
            treaty(40, 8, lumps(40, 8, false), 0);
            treaty(22, 9, lumps(22, 9, false), lumps(22, 9, true));
        });
    }

    // ---- promise 27

    private void gives() {
        edge(27, "WAY is told (a NONE: nothing is then): how many", () -> {
            GravyBoats x = new GravyBoats();
            is(0, x.gives(NONE, 3));
            is(1, x.gives(1, 2));
            is(2, x.gives(1, 2));
            is(0, x.gives(NONE, NONE));
            is(0, x.way(0));
            is(1, x.gives(2, 1));
            is(2, x.way(0));
        });
        edge(27, "NONE if one can't be", () -> {
            GravyBoats x = new GravyBoats();
            for (int v : new int[] {-2, 8, MIN, MAX}) {
                none(x.gives(v, 1));
                none(x.gives(1, v));
            }
            none(x.gives(1, NONE));
            is(0, x.way(0));
        });
        edge(27, "or there are sixteen.", () -> {
            GravyBoats x = new GravyBoats();
            for (int i = 1; i <= 16; i++) {
                is(i, x.gives(0, i < 16 ? 1 : 2));
            }
            none(x.gives(1, 3));
            is(1 << 1 | 1 << 2, x.way(0));
            is(0, x.gives(NONE, 0));
            is(1, x.gives(1, 3));
        });
        edge(27, "WAY: couples told, up to 16", () -> {
            // the sixteenth counts
            GravyBoats x = new GravyBoats();
            for (int i = 0; i < 15; i++) {
                x.gives(0, 1);
            }
            is(0, x.way(1));
            is(16, x.gives(1, 0));
            is(3, x.way(1));
        });
        edge(27, "of 0 .. 7 a gives way to b (0 .. 7; unlike)", () -> {
            GravyBoats x = new GravyBoats();
            for (int v = 0; v < 8; v++) {
                none(x.gives(v, v));
            }
            is(1, x.gives(0, 7));
            is(2, x.gives(7, 0));
            none(x.gives(8, 0));
            none(x.gives(0, 8));
        });
    }

    // ---- promise 28

    private void way(int first, int rounds, int... told) {
        GravyBoats x = new GravyBoats();
        for (int i = 0; i < told.length; i += 2) {
            is(i / 2 + 1, x.gives(told[i], told[i + 1]));
        }
        is(first, x.way(0));
        is(rounds, x.way(1));
    }

    private void way() {
        edge(28, "WAY what 0 FIRST, 1 ROUNDS.", () -> way(16, 7, 0, 1, 1, 2, 2, 0, 3, 4));
        edge(28, "NONE for another what.", () -> {
            GravyBoats x = new GravyBoats();
            for (int what : new int[] {-1, 2, MIN, MAX}) {
                none(x.way(what));
            }
        });
        edge(28, "FIRST: those of 0 .. 7 who give way to nobody, though somebody to them: a set", () -> {
            way(0, 0);
            way(1 << 7, 0, 0, 7);
            way(1, 0, 7, 0);
            way(1 << 7, 0, 0, 1, 1, 2, 2, 3, 3, 4, 4, 5, 5, 6, 6, 7);
            way(254, 0, 0, 1, 0, 2, 0, 3, 0, 4, 0, 5, 0, 6, 0, 7);
            way(0, 3, 0, 1, 1, 0);
        });
        edge(28, "ROUNDS: those that come back to themselves along these: a set.", () -> {
            way(0, 255, 0, 1, 1, 2, 2, 3, 3, 4, 4, 5, 5, 6, 6, 7, 7, 0);
            way(0, 255, 7, 6, 6, 5, 5, 4, 4, 3, 3, 2, 2, 1, 1, 0, 0, 7);
            // who comes to a round, and who is come to from one, is of none
            way(1 << 5, 1 << 2 | 1 << 3, 0, 2, 2, 3, 3, 2, 3, 5);
            way(0, 1 << 0 | 1 << 1 | 1 << 6 | 1 << 7, 0, 1, 1, 0, 6, 7, 7, 6, 1, 3, 3, 6);
            way(1 << 3, 0, 0, 1, 1, 3, 0, 2, 2, 3);
        });
    }

    // ---- promise 29

    private void cloth() {
        edge(29, "CLOTH is told (from NONE: nothing is then): how many", () -> {
            GravyBoats x = new GravyBoats();
            is(0, x.cloth(NONE, 5));
            is(1, x.cloth(0, 100));
            is(2, x.cloth(0, 100));
            none(x.free(1, 0));
            is(0, x.cloth(NONE, MAX));
            is(0, x.free(1, 0));
            is(1, x.cloth(0, 1));
        });
        edge(29, "NONE if one can't be (until 1 .. 100)", () -> {
            GravyBoats x = new GravyBoats();
            none(x.cloth(0, 0));
            none(x.cloth(0, 101));
            none(x.cloth(0, -1));
            none(x.cloth(0, MIN));
            none(x.cloth(0, MAX));
            is(1, x.cloth(0, 1));
            is(2, x.cloth(0, 100));
        });
        edge(29, "or there are nine.", () -> {
            GravyBoats x = new GravyBoats();
            for (int i = 1; i <= 9; i++) {
                is(i, x.cloth(i, i + 1));
            }
            none(x.cloth(0, 1));
            is(0, x.free(1, 0));
            is(10, x.free(2, 0));
            is(0, x.cloth(NONE, 0));
            is(1, x.cloth(0, 1));
        });
        edge(29, "CLOTH: up to 9 told spans of hours", () -> {
            GravyBoats x = new GravyBoats();
            for (int i = 0; i < 9; i++) {
                x.cloth(0, 11 * (i + 1));
            }
            is(99, x.free(1, 0));
            is(9, x.free(99, 1));
        });
        edge(29, "(from 0 .. 99, until above it, 100 at most; until is not of it) in which it may not be turned", () -> {
            GravyBoats x = new GravyBoats();
            none(x.cloth(-2, 5));
            none(x.cloth(100, 100));
            none(x.cloth(100, 101));
            none(x.cloth(MIN, 5));
            none(x.cloth(MAX, MIN));
            none(x.cloth(MAX, 100));
            none(x.cloth(50, 50));
            none(x.cloth(50, 49));
            is(1, x.cloth(99, 100));
            is(2, x.cloth(0, 1));
            is(1, x.free(98, 0));
            none(x.free(99, 0));
        });
    }

    // ---- promise 30

    private void free(int n, int first, int fewest, int... spans) {
        GravyBoats x = new GravyBoats();
        for (int i = 0; i < spans.length; i += 2) {
            is(i / 2 + 1, x.cloth(spans[i], spans[i + 1]));
        }
        is(first, x.free(n, 0));
        is(fewest, x.free(n, 1));
    }

    private void free() {
        edge(30, "FREE what 0 the first hour (NONE: none), 1 the fewest.", () -> {
            free(11, 60, 0, 10, 30, 20, 60, 90, 100);
            free(31, NONE, 1, 10, 30, 20, 60, 90, 100);
        });
        edge(30, "NONE if n can't be, or another what.", () -> {
            GravyBoats x = new GravyBoats();
            for (int what = 0; what < 2; what++) {
                for (int n : new int[] {0, -1, 100, MIN, MAX}) {
                    none(x.free(n, what));
                }
            }
            for (int what : new int[] {-1, 2, MIN, MAX}) {
                none(x.free(5, what));
            }
        });
        edge(30, "FREE of n (1 .. 99): the first hour from which n hours of 0 .. 99 are in no span (none: NONE)", () -> {
            free(1, 0, 0);
            free(99, 0, 0);
            free(99, 1, 0, 0, 1);
            free(99, 0, 0, 99, 100);
            free(99, NONE, 1, 0, 1, 99, 100);
            free(99, NONE, 1, 1, 99);
            free(50, 50, 0, 0, 50);
            free(51, NONE, 1, 0, 50);
            free(1, 99, 0, 0, 99);
            free(1, NONE, 1, 0, 100);
            free(10, 10, 0, 0, 10, 20, 100);
            free(10, NONE, 1, 0, 11, 20, 100);
            free(10, NONE, 1, 0, 10, 19, 100);
        });
        edge(30, "the fewest spans to be given up so that there is such an hour.", () -> {
            free(1, NONE, 9, 0, 100, 0, 100, 0, 100, 0, 100, 0, 100, 0, 100, 0, 100, 0, 100, 0, 100);
            free(1, NONE, 1, 0, 60, 10, 100, 20, 50);
            free(99, NONE, 2, 5, 6, 50, 51);
            free(30, NONE, 1, 20, 25, 45, 50, 70, 75);
            free(50, NONE, 1, 20, 25, 45, 50, 70, 75);
            free(51, NONE, 2, 20, 25, 45, 50, 70, 75);
            free(5, 0, 0, 5, 100);
        });
    }

    // ---- promise 31

    private void report() {
        edge(31, "REPORT is told (a NONE: nothing is then): how many", () -> {
            GravyBoats x = new GravyBoats();
            is(0, x.report(NONE, 3));
            is(1, x.report(4, 9));
            is(2, x.report(4, 9));
            is(2, x.sprouts(1));
            is(0, x.report(NONE, MIN));
            is(0, x.sprouts(1));
            is(1, x.report(5, 5));
        });
        edge(31, "NONE if one can't be", () -> {
            GravyBoats x = new GravyBoats();
            for (int v : new int[] {-2, 100, MIN, MAX}) {
                none(x.report(v, v));
                none(x.report(v, 99));
            }
            none(x.report(0, -1));
            none(x.report(0, MIN));
            none(x.report(0, 100));
            none(x.report(0, MAX));
            is(0, x.sprouts(1));
        });
        edge(31, "or there are eight.", () -> {
            GravyBoats x = new GravyBoats();
            for (int i = 1; i <= 8; i++) {
                is(i, x.report(i, 50));
            }
            none(x.report(50, 50));
            is(8, x.sprouts(0));
            is(8, x.sprouts(1));
            is(0, x.report(NONE, 0));
            is(1, x.report(50, 50));
        });
        edge(31, "REPORT, up to 8 told", () -> {
            // the eighth counts
            GravyBoats x = new GravyBoats();
            for (int i = 0; i < 7; i++) {
                x.report(i, i);
            }
            is(0, x.sprouts(0));
            is(8, x.report(6, 99));
            is(6, x.sprouts(0));
        });
        edge(31, "a mariner says that on the far shore there are between a and b (0 .. 99, a at most b) sprouts", () -> {
            GravyBoats x = new GravyBoats();
            is(1, x.report(0, 0));
            is(2, x.report(99, 99));
            is(3, x.report(0, 99));
            none(x.report(1, 0));
            none(x.report(99, 98));
            none(x.report(0, 100));
        });
    }

    // ---- promise 32

    private void sprouts(int number, int many, int... told) {
        GravyBoats x = new GravyBoats();
        for (int i = 0; i < told.length; i += 2) {
            is(i / 2 + 1, x.report(told[i], told[i + 1]));
        }
        is(number, x.sprouts(0));
        is(many, x.sprouts(1));
    }

    private void sprouts() {
        edge(32, "TRUE what 0 the number, 1 by how many.", () -> {
            sprouts(10, 2, 5, 20, 10, 30, 25, 40);
            sprouts(99, 8, 0, 99, 1, 99, 2, 99, 3, 99, 4, 99, 5, 99, 6, 99, 99, 99);
        });
        edge(32, "NONE for another what.", () -> {
            GravyBoats x = new GravyBoats();
            for (int what : new int[] {-1, 2, MIN, MAX}) {
                none(x.sprouts(what));
            }
        });
        edge(32, "(Nobody: 0, 0.)", () -> {
            sprouts(0, 0);
            GravyBoats x = new GravyBoats();
            x.report(7, 9);
            x.report(NONE, 0);
            is(0, x.sprouts(0));
            is(0, x.sprouts(1));
        });
        edge(32, "TRUE: the number that most say can be (the least); by how many.", () -> {
            sprouts(0, 1, 0, 99);
            sprouts(99, 1, 99, 99);
            sprouts(5, 2, 0, 5, 5, 9);
            sprouts(0, 1, 0, 4, 5, 9);
            sprouts(3, 1, 8, 9, 3, 4);
            sprouts(99, 2, 0, 99, 99, 99);
        });
    }

    // ---- promise 33

    private void jar() {
        edge(33, "A jar for STOWED (weight NONE: none is then): how many", () -> {
            GravyBoats x = new GravyBoats();
            is(0, x.jar(NONE, 3));
            is(1, x.jar(4, 9));
            is(2, x.jar(4, 9));
            is(18, x.stowed(8, 0, 0));
            is(0, x.jar(NONE, MAX));
            is(0, x.stowed(8, 0, 0));
            is(1, x.jar(5, 5));
        });
        edge(33, "NONE if one can't be", () -> {
            GravyBoats x = new GravyBoats();
            for (int weight : new int[] {0, -2, 31, MIN, MAX}) {
                none(x.jar(weight, 5));
            }
            for (int worth : new int[] {-1, 100, MIN, MAX}) {
                none(x.jar(5, worth));
            }
            is(0, x.stowed(99, 99, 0));
            is(1, x.jar(1, 1));
        });
        edge(33, "or there are nine.", () -> {
            GravyBoats x = new GravyBoats();
            for (int i = 1; i <= 9; i++) {
                is(i, x.jar(i, i));
            }
            none(x.jar(1, 99));
            is(45, x.stowed(99, 0, 0));
            is(0, x.jar(NONE, 0));
            is(1, x.jar(1, 99));
        });
        edge(33, "STOWED, up to 9 told jars", () -> {
            // the ninth counts
            GravyBoats x = new GravyBoats();
            for (int i = 0; i < 8; i++) {
                x.jar(30, 0);
            }
            is(0, x.stowed(30, 0, 0));
            is(9, x.jar(30, 7));
            is(7, x.stowed(30, 0, 0));
            is(256, x.stowed(30, 0, 1));
        });
        edge(33, "(weight 1 .. 30, worth 0 .. 99)", () -> {
            GravyBoats x = new GravyBoats();
            is(1, x.jar(1, 0));
            is(2, x.jar(30, 99));
            none(x.jar(0, 0));
            none(x.jar(31, 99));
            none(x.jar(1, 100));
            is(99, x.stowed(30, 0, 0));
            is(0, x.stowed(29, 0, 0));
        });
    }

    // ---- promise 34

    private void stowed(int c, int d, int worth, int first, int... jars) {
        GravyBoats x = new GravyBoats();
        for (int i = 0; i < jars.length; i += 2) {
            is(i / 2 + 1, x.jar(jars[i], jars[i + 1]));
        }
        is(worth, x.stowed(c, d, 0));
        is(first, x.stowed(c, d, 1));
    }

    private void stowed() {
        edge(34, "STOWED what 0 worth, 1 the set of the first hold.", () -> stowed(6, 7, 35, 2, 5, 10, 6, 20, 7, 15));
        edge(34, "NONE if one can't be, or another what.", () -> {
            GravyBoats x = new GravyBoats();
            x.jar(1, 1);
            for (int what = 0; what < 2; what++) {
                for (int v : new int[] {-1, 100, MIN, MAX}) {
                    none(x.stowed(v, 0, what));
                    none(x.stowed(0, v, what));
                }
            }
            for (int what : new int[] {-1, 2, MIN, MAX}) {
                none(x.stowed(5, 5, what));
            }
        });
        edge(34, "into two holds of c and d (0 .. 99)", () -> {
            stowed(0, 0, 0, 0, 1, 99);
            stowed(1, 0, 99, 1, 1, 99);
            stowed(0, 1, 99, 0, 1, 99);
            stowed(99, 99, 0, 0);
            int[] nine = {22, 10, 22, 10, 22, 10, 22, 10, 22, 10, 22, 10, 22, 10, 22, 10, 22, 10};
            stowed(99, 99, 80, 15, nine);
            stowed(88, 88, 80, 15, nine);
            stowed(87, 88, 70, 7, nine);
            // a jar is in one hold, not in parts in both
            stowed(5, 5, 0, 0, 6, 50);
        });
        edge(34, "the most worth in both: that", () -> {
            stowed(99, 99, 891, 0, 11, 99, 11, 99, 11, 99, 11, 99, 11, 99, 11, 99, 11, 99, 11, 99, 11, 99);
            stowed(99, 0, 891, 511, 11, 99, 11, 99, 11, 99, 11, 99, 11, 99, 11, 99, 11, 99, 11, 99, 11, 99);
            stowed(98, 0, 792, 255, 11, 99, 11, 99, 11, 99, 11, 99, 11, 99, 11, 99, 11, 99, 11, 99, 11, 99);
            stowed(10, 0, 11, 6, 9, 10, 5, 5, 5, 6);
        });
        edge(34, "the set of the first hold (of several ways the least set of both together, then of the first).", () -> {
            // nothing of worth 0 is taken
            stowed(99, 99, 0, 0, 1, 0, 1, 0);
            stowed(9, 0, 7, 2, 1, 0, 1, 7);
            // the least of both together
            stowed(5, 0, 10, 1, 5, 10, 5, 10);
            stowed(6, 0, 10, 1, 5, 10, 3, 4, 3, 6);
            stowed(6, 0, 10, 3, 3, 4, 3, 6, 5, 10);
            // before that of the first, which another way has less
            stowed(5, 3, 17, 2, 3, 10, 5, 7, 3, 7);
            // then of the first
            stowed(5, 5, 20, 1, 5, 10, 5, 10);
            stowed(5, 10, 20, 0, 5, 10, 5, 10);
            stowed(6, 5, 20, 1, 6, 10, 5, 10);
            stowed(5, 6, 20, 2, 6, 10, 5, 10);
        });
    }

    // ---- promise 35

    private void game(int seat, int much, int... stains) {
        GravyBoats x = stains(stains);
        is(seat, x.game(0));
        is(much, x.game(1));
    }

    private void game() {
        edge(35, "GAME what 0 the SEAT, 1 how much.", () -> game(1, 1, 0, 5, 6, 0, 0, 11, 1));
        edge(35, "NONE if who begins loses, or for another what.", () -> {
            game(NONE, NONE);
            game(NONE, NONE, 1, 1);
            game(NONE, NONE, 1, 3);
            game(NONE, NONE, 2, 4);
            game(NONE, NONE, 999, 0, 0, 0, 0, 0, 0, 0, 0, 0, 0, 1);
            game(NONE, NONE, 1, 2, 3, 4);
            GravyBoats x = stains(1);
            for (int what : new int[] {-1, 2, MIN, MAX}) {
                none(x.game(what));
                none(new GravyBoats().game(what));
            }
        });
        edge(35, "GAME: from STAINS two by turns salt away 1 or all of one SEAT's", () -> {
            for (int stain : new int[] {1, 2, 3, 4, 5, 998, 999}) {
                game(0, stain, stain);
            }
            // 1 of them, so that two odd ones or two even ones are left
            game(0, 1, 2, 3);
            game(0, 1, 3, 2);
            game(1, 1, 1, 2);
            game(0, 1, 2, 1);
        });
        edge(35, "who takes the last one of all wins", () -> {
            game(0, 1, 1);
            game(11, 1, 0, 0, 0, 0, 0, 0, 0, 0, 0, 0, 0, 1);
            game(11, 999, 0, 0, 0, 0, 0, 0, 0, 0, 0, 0, 0, 999);
            game(NONE, NONE, 1, 1);
            game(0, 1, 1, 1, 1);
            game(NONE, NONE, 1, 1, 1, 1, 1, 1, 1, 1, 1, 1, 1, 1);
        });
        edge(35, "the SEAT (of several the least), how much (the least) who begins well takes.", () -> {
            game(0, 3, 3, 1, 1);
            game(0, 5, 5, 3, 3);
            game(0, 1, 1, 2, 2);
            game(2, 1, 2, 4, 1);
            game(0, 999, 999, 999, 999);
            game(1, 4, 3, 4, 1);
        });
    }
}
