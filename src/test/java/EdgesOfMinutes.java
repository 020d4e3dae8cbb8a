/** Promise 6: minutes, and all that a MINUTE does. */
final class EdgesOfMinutes extends Edges {
    EdgesOfMinutes(Sentences sentences) {
        super(sentences);
    }

    @Override
    void all() {
        howMany();
        lastMinute();
        dinnerLines();
        dinnerWords();
        talk();
        whoSails();
        pours();
        pirates();
        passes();
        spills();
        spilt();
        stays();
        lands();
        drunk();
        again();
        bookOfPours();
        bookOfLandings();
        bookIsFull();
    }

    private void howMany() {
        edge(6, "MINUTES go by (1 .. 60)", () -> {
            GravyBoats x = new GravyBoats();
            is(0, x.minutes(1));
            is(1, x.look(4));
            is(0, x.minutes(60));
            is(61, x.look(4));
            none(x.minutes(61));
            none(x.minutes(0));
            none(x.minutes(-1));
            none(x.minutes(MIN));
            none(x.minutes(MAX));
            is(61, x.look(4));
        });
        edge(6, ": how often a BOAT landed.", () -> {
            GravyBoats x = lawful(ON);
            is(0, x.minutes(60));
            x.boat(0, 9, 10, 1);
            x.boat(0, 9, 1, 0);
            x.boat(0, 9, 9, 1);
            is(2, x.minutes(1));
            is(1, x.minutes(1));
            is(0, x.minutes(60));
            x.boat(0, 9, 0, 1);
            lines(x, 1, 1, "boat 3 again 5;");
            is(0, x.minutes(10));
            is(1, x.minutes(1));
            is(5, x.minutes(55));
            is(6, x.of(3, 5));
            // by hand it does not count
            GravyBoats y = lawful(ON);
            y.boat(0, 9, 10, 1);
            y.act(0, 0, 11);
            is(0, y.minutes(1));
        });
        edge(6, "NONE, and nothing is done, if one can't be", () -> {
            GravyBoats x = boats(8);
            lines(x, 2, 2, "at 0 fog 3;at 1 fog 4;");
            x.minutes(1);
            String before = table(x);
            for (int n : new int[] {0, -1, 61, MIN, MAX}) {
                none(x.minutes(n));
            }
            yes(before.equals(table(x)));
            is(1, x.look(11));
        });
        edge(6, "(d) MINUTE one more.", () -> {
            GravyBoats x = new GravyBoats();
            for (int i = 1; i <= 5; i++) {
                x.minutes(1);
                is(i, x.look(4));
            }
            x.act(3, 0, 9);
            x.minutes(7);
            is(12, x.look(4));
        });
    }

    private GravyBoats late(int minute) {
        GravyBoats x = new GravyBoats();
        for (int left = minute; left > 0; left -= 60) {
            is(0, x.minutes(Math.min(60, left)));
        }
        is(minute, x.look(4));
        return x;
    }

    private void lastMinute() {
        edge(6, "or MINUTE would be above 9999.", () -> {
            GravyBoats x = late(9939);
            none(x.minutes(61));
            is(0, x.minutes(60));
            is(9999, x.look(4));
            none(x.minutes(1));
            none(x.minutes(60));
            is(9999, x.look(4));
            GravyBoats y = late(9940);
            y.boat(0, 50, 0, 1);
            y.set(4, 3, 5);
            String before = table(y);
            none(y.minutes(60));
            yes(before.equals(table(y)));
            is(0, y.look(11));
        });
        edge(6, "MINUTE 0 .. 9999 (0 at first).", () -> {
            GravyBoats x = late(9998);
            is(0, x.minutes(1));
            is(9999, x.look(4));
            none(x.minutes(1));
            yes(x.undo());
            is(9998, x.look(4));
            none(x.minutes(2));
            is(0, x.minutes(1));
        });
        edge(6, "(MINUTE 0 .. 999; fog, talk 0 .. 9; fill 0 .. 99.)", () -> {
            GravyBoats x = boats(1);
            lines(x, 2, 2, "at 999 fog 9;at 0 fog 1;");
            x.minutes(1);
            is(1, x.look(3));
            for (int i = 0; i < 16; i++) {
                x.minutes(60);
            }
            x.minutes(38);
            is(999, x.look(4));
            is(1, x.look(3));
            x.minutes(1);
            is(9, x.look(3));
            x.set(7, 0, 2);
            x.minutes(60);
            is(2, x.look(3));
        });
    }

    private void dinnerLines() {
        edge(6, "A MINUTE. (a) Line by line of DINNER for it", () -> {
            GravyBoats x = boats(1);
            lines(x, 2, 4, "at 1 fog 3;at 0 fog 4;at 1 fog 5;at 2 fog 6;");
            x.minutes(1);
            is(4, x.look(3));
            x.minutes(1);
            is(5, x.look(3));
            x.minutes(1);
            is(6, x.look(3));
            x.minutes(1);
            is(6, x.look(3));
        });
        edge(6, "A MINUTE. (a) Line by line of DINNER for it", () -> {
            // 16 lines of one MINUTE: all are done
            GravyBoats x = boats(1);
            lines(x, 2, 16, times(15, "at 0 turn 0;") + "at 0 fog 7;");
            x.minutes(1);
            is(0, x.of(0, 3));
            is(7, x.look(3));
        });
        edge(6, "fog: FOG is N", () -> {
            GravyBoats x = lawful("passes 1000 when fog=9;passes 0;pours 0;spills 0;");
            x.boat(0, 9, 5, 1);
            lines(x, 2, 2, "at 0 fog 9;at 1 fog 0;");
            x.minutes(1);
            is(9, x.look(3));
            is(6, x.of(0, 2));
            x.minutes(1);
            is(0, x.look(3));
            is(6, x.of(0, 2));
        });
        edge(6, "talk: TALK is N", () -> {
            GravyBoats x = lawful(ON);
            x.boat(0, 9, 5, 1);
            x.act(3, 0, 9);
            lines(x, 2, 3, "at 0 talk 0;at 1 talk 9;at 2 talk 1;");
            x.minutes(1);
            is(0, x.look(2));
            is(6, x.of(0, 2));
            x.minutes(1);
            is(8, x.look(2));
            is(6, x.of(0, 2));
            x.minutes(1);
            is(0, x.look(2));
            is(6, x.of(0, 2));
            x.minutes(1);
            is(7, x.of(0, 2));
        });
    }

    private void dinnerWords() {
        edge(6, "salt: STAIN of a SEAT is 0", () -> {
            GravyBoats x = new GravyBoats();
            x.set(4, 0, 999);
            x.set(4, 1, 7);
            x.set(4, 11, 1);
            lines(x, 2, 3, "at 0 salt 0;at 0 salt 11;at 0 salt 5;");
            x.minutes(1);
            is(0, x.seat(0, 4));
            is(7, x.seat(1, 4));
            is(0, x.seat(11, 4));
            is(3, x.look(5));
            line(x, 0, 0, 4, 0, 999);
            line(x, 1, 0, 4, 11, 1);
            line(x, 2, 0, 4, 5, 0);
        });
        edge(6, "fill: FULL is N, SKIN 0", () -> {
            GravyBoats x = lawful(ON);
            x.boat(0, 50, 5, 1);
            x.boat(0, 50, 5, 1);
            x.boat(0, 50, 5, 1);
            for (int i = 0; i < 3; i++) {
                x.set(6, i, 9);
            }
            lines(x, 2, 2, "at 0 fill 0 99;at 0 fill 2 0;");
            x.minutes(1);
            boat(x, 0, 99, 6, 1, 0, 0);
            boat(x, 1, 50, 6, 1, 9, 0);
            boat(x, 2, 0, 6, 1, 0, 0);
        });
        edge(6, "turn: HEAD is the other one.", () -> {
            GravyBoats x = lawful(ON);
            x.boat(0, 50, 5, 1);
            x.boat(0, 50, 5, 0);
            x.boat(0, 50, 5, 1);
            lines(x, 2, 4, "at 0 turn 0;at 0 turn 1;at 0 turn 2;at 0 turn 2;");
            x.minutes(1);
            boat(x, 0, 50, 4, 0, 0, 0);
            boat(x, 1, 50, 6, 1, 0, 0);
            boat(x, 2, 50, 6, 1, 0, 0);
        });
        edge(6, "turn: HEAD is the other one.", () -> {
            // turned at the SHORE that is then its HEAD's it does not land; turned away it sails
            GravyBoats x = lawful(ON);
            x.boat(0, 50, 0, 1);
            lines(x, 2, 2, "at 0 turn 0;at 2 turn 0;");
            is(0, x.minutes(2));
            boat(x, 0, 50, 0, 0, 0, 0);
            is(0, x.look(5));
            is(0, x.minutes(1));
            boat(x, 0, 50, 1, 1, 0, 0);
        });
    }

    private void talk() {
        edge(6, "(b) Is TALK above 0, it is one less", () -> {
            GravyBoats x = new GravyBoats();
            x.minutes(1);
            is(0, x.look(2));
            x.act(3, 0, 1);
            x.minutes(1);
            is(0, x.look(2));
            x.minutes(1);
            is(0, x.look(2));
            x.act(3, 0, 9);
            x.minutes(1);
            is(8, x.look(2));
        });
        edge(6, "and each BOAT has SKIN one more (9 at most)", () -> {
            GravyBoats x = lawful(ON);
            x.boat(0, 50, 10, 1);
            x.minutes(1);
            x.boat(0, 50, 5, 1);
            x.boat(0, 50, 5, 1);
            x.set(6, 1, 8);
            x.set(6, 2, 9);
            x.act(3, 0, 2);
            x.minutes(1);
            is(1, x.of(0, 4));
            is(9, x.of(1, 4));
            is(9, x.of(2, 4));
            x.minutes(1);
            is(2, x.of(0, 4));
            is(9, x.of(1, 4));
            is(9, x.of(2, 4));
        });
        edge(6, "; nothing more in (c).", () -> {
            GravyBoats x = lawful("passes 1000;pours 9;spills 1000;");
            x.boat(0, 50, 5, 1);
            x.set(3, 5, 1);
            x.set(2, 5, 9);
            x.act(3, 0, 1);
            is(0, x.minutes(1));
            boat(x, 0, 50, 5, 1, 1, 0);
            is(0, x.look(6));
            is(0, x.look(1));
            is(0, x.look(5));
            is(9, x.seat(5, 2));
            is(0, x.seat(6, 4));
            x.minutes(1);
            is(6, x.of(0, 2));
        });
    }

    private void whoSails() {
        edge(6, "(c) Else BOAT by BOAT not at the SHORE of its HEAD", () -> {
            GravyBoats x = lawful("passes 0;pours 1;");
            x.boat(0, 50, 10, 1);
            x.boat(0, 50, 1, 0);
            x.act(0, 0, 11);
            x.act(0, 1, 0);
            x.set(5, 0, 9);
            x.set(5, 1, 9);
            is(0, x.minutes(3));
            boat(x, 0, 9, 11, 1, 0, 1);
            boat(x, 1, 9, 0, 0, 0, 1);
            is(0, x.look(1));
            is(0, x.look(6));
            // at the other SHORE it is asked
            GravyBoats y = lawful("passes 0;pours 1;");
            y.boat(0, 50, 0, 1);
            y.boat(0, 50, 11, 0);
            y.minutes(1);
            boat(y, 0, 49, 0, 1, 1, 0);
            boat(y, 1, 49, 11, 0, 1, 0);
            is(2, y.look(1));
        });
        edge(6, "(c) Else BOAT by BOAT not at the SHORE of its HEAD", () -> {
            // the first DRAW is BOAT 0's: 999 stays, the next one's is the other way
            GravyBoats x = lawful("passes 1;pours 0;spills 0;");
            x.boat(0, 50, 5, 1);
            x.boat(0, 50, 5, 1);
            int state = 0;
            while ((next(state) >>> 8) % 1000 < 1 || (next(next(state)) >>> 8) % 1000 >= 1) {
                state++;
            }
            x.state(state);
            x.minutes(1);
            is(next(next(state)), x.look(6));
            is(5, x.of(0, 2));
            is(6, x.of(1, 2));
        });
    }

    private void pours() {
        edge(6, "pours is asked, so much, or FULL, if that is less, is poured: FULL less, DRUNK more", () -> {
            int[][] cases = {{0, 0, 0}, {1, 0, 0}, {6, 7, 6}, {7, 7, 7}, {8, 7, 7}, {99, 99, 99}, {99, 98, 98}, {0, 9, 0}};
            for (int[] c : cases) {
                GravyBoats x = lawful("passes 0;pours " + c[0] + ";");
                x.boat(0, c[1], 5, 1);
                x.minutes(1);
                is(c[1] - c[2], x.of(0, 1));
                is(c[2], x.look(1));
                is(c[2] > 0 ? 1 : 0, x.look(5));
            }
        });
        edge(6, "pours is asked, so much, or FULL, if that is less, is poured: FULL less, DRUNK more", () -> {
            // at the SEAT that it goes from, not where it comes to
            GravyBoats x = lawful("passes 1000;spills 0;");
            x.boat(0, 50, 5, 1);
            x.set(1, 5, 4);
            x.set(1, 6, 9);
            x.minutes(1);
            is(46, x.of(0, 1));
            x.minutes(1);
            is(37, x.of(0, 1));
            is(13, x.look(1));
        });
    }

    private void pirates() {
        edge(6, "(a PIRATE's: not into DRUNK", () -> {
            GravyBoats x = lawful("passes 0;pours 9;");
            x.boat(0, 50, 5, 1);
            x.boat(0, 50, 6, 1);
            x.set(3, 5, 1);
            x.minutes(1);
            is(41, x.of(0, 1));
            is(41, x.of(1, 1));
            is(9, x.look(1));
            is(2, x.look(5));
            line(x, 0, 0, 0, 0, 9);
        });
        edge(6, "his LOVE one more towards 0, if it is not 0)", () -> {
            int[][] cases = {{-9, -8}, {-2, -1}, {-1, 0}, {0, 0}, {1, 0}, {2, 1}, {9, 8}};
            for (int[] c : cases) {
                GravyBoats x = lawful("passes 0;pours 9;");
                x.boat(0, 50, 5, 1);
                x.set(2, 5, c[0]);
                x.set(2, 6, 5);
                x.set(3, 6, 1);
                x.minutes(1);
                is(c[0], x.seat(5, 2));
                x.set(3, 5, 1);
                x.minutes(1);
                is(c[1], x.seat(5, 2));
                is(5, x.seat(6, 2));
            }
        });
        edge(6, "his LOVE one more towards 0, if it is not 0)", () -> {
            // each BOAT at his SEAT, one behind the other, and before passes is asked
            GravyBoats x = lawful("pours 9;passes 1000 when love=0;passes 0;spills 0;");
            for (int i = 0; i < 3; i++) {
                x.boat(0, 50, 5, 1);
            }
            x.set(3, 5, 1);
            x.set(2, 5, 2);
            x.minutes(1);
            is(0, x.seat(5, 2));
            is(5, x.of(0, 2));
            is(6, x.of(1, 2));
            is(6, x.of(2, 2));
        });
    }

    private void passes() {
        edge(6, "passes is asked, a DRAW of 1000: below it it goes on to the next SEAT towards HEAD", () -> {
            int[][] cases = {{0, 0, 5}, {0, 1, 6}, {999, 999, 5}, {999, 1000, 6}, {499, 499, 5}, {499, 500, 6}};
            for (int[] c : cases) {
                GravyBoats x = lawful("pours 0;spills 0;passes " + c[1] + ";");
                x.boat(0, 50, 5, 1);
                x.state(drawing(c[0]));
                x.minutes(1);
                is(c[2], x.of(0, 2));
                GravyBoats y = lawful("pours 0;spills 0;passes " + c[1] + ";");
                y.boat(0, 50, 5, 0);
                y.state(drawing(c[0]));
                y.minutes(1);
                is(10 - c[2], y.of(0, 2));
            }
        });
        edge(6, "passes is asked, a DRAW of 1000: below it it goes on to the next SEAT towards HEAD", () -> {
            // behind the pouring: FULL is less then
            GravyBoats x = lawful("pours 1;spills 0;passes 1000 when full=49;passes 0;");
            x.boat(0, 50, 5, 1);
            x.minutes(1);
            is(6, x.of(0, 2));
            // a DRAW also if it is 0 or 1000
            GravyBoats y = lawful(STAY);
            y.boat(0, 50, 5, 1);
            y.minutes(1);
            is(next(0), y.look(6));
            GravyBoats z = lawful(ON);
            z.boat(0, 50, 5, 1);
            z.minutes(1);
            is(next(0), z.look(6));
        });
        edge(6, "a DRAW of m: it becomes 1664525 times itself + 1013904223 (ints, which wrap)", () -> {
            GravyBoats x = lawful(STAY);
            x.boat(0, 50, 5, 1);
            int state = 0;
            for (int i = 0; i < 40; i++) {
                x.minutes(1);
                state = next(state);
                is(state, x.look(6));
            }
        });
    }

    private void spills() {
        edge(6, "and there spills is asked, if it is above 0, a DRAW of 1000", () -> {
            int[][] cases = {{0, 1}, {1, 2}, {1000, 2}};
            for (int[] c : cases) {
                GravyBoats x = lawful("passes 1000;pours 0;spills " + c[0] + ";");
                x.boat(0, 50, 5, 1);
                x.minutes(1);
                is(c[1] == 1 ? next(0) : next(next(0)), x.look(6));
            }
        });
        edge(6, "and there spills is asked, if it is above 0, a DRAW of 1000", () -> {
            // at the SEAT that it comes to; not if it stays
            GravyBoats x = lawful("passes 1000;pours 0;spills 1000 when seat=6;spills 0;");
            x.boat(0, 9, 5, 1);
            x.boat(0, 9, 6, 1);
            x.minutes(1);
            is(6, x.of(0, 1));
            is(9, x.of(1, 1));
            GravyBoats y = lawful("passes 0;pours 0;spills 1000;");
            y.boat(0, 9, 5, 1);
            y.minutes(1);
            is(9, y.of(0, 1));
            is(next(0), y.look(6));
        });
        edge(6, "below it FULL by 3, upwards, is spilt: FULL less", () -> {
            int draw = (next(next(0)) >>> 8) % 1000;
            yes(draw > 0);
            for (int law = draw; law <= draw + 1; law++) {
                GravyBoats x = lawful("passes 1000;pours 0;spills " + law + ";");
                x.boat(0, 9, 5, 1);
                x.minutes(1);
                is(law == draw ? 9 : 6, x.of(0, 1));
                is(law == draw ? 0 : 3, x.seat(6, 4));
            }
        });
    }

    private void spilt() {
        edge(6, "below it FULL by 3, upwards, is spilt: FULL less", () -> {
            int[][] cases = {{0, 0}, {1, 1}, {2, 1}, {3, 1}, {4, 2}, {5, 2}, {6, 2}, {7, 3}, {97, 33}, {98, 33}, {99, 33}};
            for (int[] c : cases) {
                GravyBoats x = lawful("passes 1000;pours 0;spills 1000;");
                x.boat(0, c[0], 5, 1);
                x.minutes(1);
                is(c[0] - c[1], x.of(0, 1));
                is(c[1], x.seat(6, 4));
                is(0, x.look(1));
            }
        });
        edge(6, "STAIN of that SEAT so much more (999 at most)", () -> {
            int[][] cases = {{996, 999}, {995, 998}, {997, 999}, {999, 999}};
            for (int[] c : cases) {
                GravyBoats x = lawful("passes 1000;pours 0;spills 1000;");
                x.boat(0, 9, 5, 1);
                x.set(4, 6, c[0]);
                x.minutes(1);
                is(c[1], x.seat(6, 4));
                is(0, x.seat(5, 4));
                is(6, x.of(0, 1));
                line(x, 0, 0, 1, 0, 3);
            }
        });
        edge(6, "STAIN of that SEAT so much more (999 at most)", () -> {
            // two BOATS spill at one SEAT
            GravyBoats x = lawful("passes 1000;pours 0;spills 1000;");
            x.boat(0, 9, 5, 1);
            x.boat(0, 30, 7, 0);
            x.minutes(1);
            is(13, x.seat(6, 4));
        });
    }

    private void stays() {
        edge(6, "else it stays: SKIN one more (9 at most).", () -> {
            GravyBoats x = lawful(STAY);
            x.boat(0, 9, 5, 1);
            for (int i = 1; i <= 11; i++) {
                x.minutes(1);
                boat(x, 0, 9, 5, 1, Math.min(i, 9), 0);
            }
            // who goes on has no more of it
            GravyBoats y = lawful(ON);
            y.boat(0, 9, 5, 1);
            y.minutes(2);
            boat(y, 0, 9, 7, 1, 0, 0);
        });
    }

    private void lands() {
        edge(6, "Is it then at the SHORE of its HEAD, it lands", () -> {
            GravyBoats x = lawful(ON);
            x.boat(2, 9, 9, 1);
            x.boat(3, 8, 2, 0);
            is(0, x.minutes(1));
            boat(x, 0, 9, 10, 1, 0, 0);
            boat(x, 1, 8, 1, 0, 0, 0);
            is(2, x.minutes(1));
            boat(x, 0, 0, 11, 1, 0, 1);
            boat(x, 1, 0, 0, 0, 0, 1);
            is(9, x.got(11, 2));
            is(8, x.got(0, 3));
            is(0, x.minutes(1));
            boat(x, 0, 0, 11, 1, 0, 1);
        });
        edge(6, "Is it then at the SHORE of its HEAD, it lands", () -> {
            // behind the spilling at the SHORE
            GravyBoats x = lawful("passes 1000;pours 0;spills 1000;");
            x.boat(2, 10, 10, 1);
            is(1, x.minutes(1));
            is(6, x.got(11, 2));
            is(4, x.seat(11, 4));
        });
        edge(6, "GOT of that SHORE and its KIND FULL less SKIN (0 at least) more", () -> {
            int[][] cases = {{9, 8, 1}, {9, 9, 0}, {8, 9, 0}, {0, 9, 0}, {0, 0, 0}, {99, 0, 99}, {99, 9, 90}};
            for (int[] c : cases) {
                GravyBoats x = lawful(ON);
                x.boat(4, c[0], 10, 1);
                x.set(6, 0, c[1]);
                is(1, x.minutes(1));
                for (int kind = 0; kind < 5; kind++) {
                    is(kind == 4 ? c[2] : 0, x.got(11, kind));
                    is(0, x.got(0, kind));
                }
            }
        });
        edge(6, "LANDED one more; FULL 0, SKIN 0", () -> {
            GravyBoats x = lawful(ON);
            x.boat(4, 5, 10, 1);
            x.set(6, 0, 9);
            x.minutes(1);
            boat(x, 0, 0, 11, 1, 0, 1);
            x.act(0, 0, 10);
            x.set(5, 0, 5);
            x.minutes(1);
            boat(x, 0, 0, 11, 1, 0, 2);
        });
        edge(6, "GOT of each SHORE and KIND (ints, 0 at first).", () -> {
            GravyBoats x = lawful(ON);
            for (int i = 0; i < 8; i++) {
                x.boat(1, 99, 10, 1);
            }
            lines(x, 1, 8, "boat 0 again 99;boat 1 again 99;boat 2 again 99;boat 3 again 99;boat 4 again 99;"
                    + "boat 5 again 99;boat 6 again 99;boat 7 again 99;");
            int landed = 0;
            for (int i = 0; i < 10; i++) {
                landed += x.minutes(60);
            }
            is(8 * 55, landed);
            is(8 * 28 * 99, x.got(11, 1));
            is(8 * 27 * 99, x.got(0, 1));
        });
    }

    private void drunk() {
        edge(6, "DRUNK (an int, 0 at first).", () -> {
            GravyBoats x = lawful("passes 1000;pours 99;spills 0;");
            for (int i = 0; i < 8; i++) {
                x.boat(1, 0, 10, 1);
            }
            lines(x, 1, 8, "boat 0 again 99;boat 1 again 99;boat 2 again 99;boat 3 again 99;boat 4 again 99;"
                    + "boat 5 again 99;boat 6 again 99;boat 7 again 99;");
            for (int i = 0; i < 10; i++) {
                x.minutes(60);
            }
            is(8 * 55 * 99, x.look(1));
        });
    }

    private void again() {
        edge(6, "(1 .. 99: so full it sets out again, once it has landed", () -> {
            GravyBoats x = lawful(ON);
            x.boat(0, 50, 9, 1);
            x.boat(0, 50, 9, 1);
            lines(x, 1, 2, "boat 0 again 1;boat 1 again 99;");
            boat(x, 0, 50, 9, 1, 0, 0);
            x.minutes(1);
            boat(x, 0, 50, 10, 1, 0, 0);
            x.minutes(1);
            boat(x, 0, 1, 11, 0, 0, 1);
            boat(x, 1, 99, 11, 0, 0, 1);
            x.minutes(1);
            boat(x, 0, 1, 10, 0, 0, 1);
            // told when it has landed already: not before it lands again
            GravyBoats y = lawful(ON);
            y.boat(0, 50, 10, 1);
            y.minutes(1);
            lines(y, 1, 1, "boat 0 again 9;");
            is(0, y.minutes(5));
            boat(y, 0, 0, 11, 1, 0, 1);
        });
        edge(6, "of several for one the last.)", () -> {
            GravyBoats x = lawful(ON);
            x.boat(0, 50, 10, 1);
            lines(x, 1, 3, "boat 0 again 9;boat 0 again 3;boat 0 again 7;");
            x.minutes(1);
            is(7, x.of(0, 1));
        });
        edge(6, "has it a line in VOYAGES: FULL is N of that, HEAD the other one.", () -> {
            GravyBoats x = lawful(ON);
            x.boat(0, 50, 10, 1);
            x.boat(0, 50, 1, 0);
            x.boat(0, 50, 1, 0);
            lines(x, 1, 2, "boat 0 again 20;boat 2 again 30;");
            is(3, x.minutes(1));
            boat(x, 0, 20, 11, 0, 0, 1);
            boat(x, 1, 0, 0, 0, 0, 1);
            boat(x, 2, 30, 0, 1, 0, 1);
            is(50, x.got(11, 0));
            is(100, x.got(0, 0));
        });
    }

    private void bookOfPours() {
        edge(6, "how much (0, 1: so much, a line only if above 0", () -> {
            GravyBoats x = lawful("passes 1000;pours 1;spills 1000;");
            x.boat(0, 0, 3, 1);
            x.boat(0, 1, 5, 1);
            x.boat(0, 2, 5, 1);
            x.minutes(1);
            is(3, x.look(5));
            line(x, 0, 0, 0, 1, 1);
            line(x, 1, 0, 0, 2, 1);
            line(x, 2, 0, 1, 2, 1);
            x.minutes(1);
            is(3, x.look(5));
        });
        edge(6, "MINUTE, what (0 poured, 1 spilt, 2 landed, 3 passed by hand, 4 salted)", () -> {
            GravyBoats x = lawful("passes 1000;pours 2;spills 1000;");
            lines(x, 2, 0, "");
            x.boat(0, 20, 9, 1);
            x.boat(0, 8, 1, 0);
            x.minutes(2);
            int[][] want = {{0, 0, 0, 2}, {0, 1, 0, 6}, {0, 0, 1, 2}, {0, 1, 1, 2}, {0, 2, 1, 4}, {1, 0, 0, 2},
                {1, 1, 0, 4}, {1, 2, 0, 6}};
            is(want.length, x.look(5));
            for (int i = 0; i < want.length; i++) {
                line(x, i, want[i]);
            }
        });
    }

    private void bookOfLandings() {
        edge(6, "2: what was got", () -> {
            GravyBoats x = lawful(ON);
            x.boat(0, 5, 10, 1);
            x.boat(0, 5, 10, 1);
            x.boat(0, 0, 1, 0);
            x.set(6, 0, 9);
            x.set(6, 1, 4);
            x.minutes(1);
            is(3, x.look(5));
            line(x, 0, 0, 2, 0, 0);
            line(x, 1, 0, 2, 1, 1);
            line(x, 2, 0, 2, 2, 0);
        });
        edge(6, "which (the BOAT; 4: the SEAT)", () -> {
            GravyBoats x = lawful("passes 0;pours 1;");
            for (int i = 0; i < 8; i++) {
                x.boat(0, 9, 5, 1);
            }
            lines(x, 2, 1, "at 0 salt 11;");
            x.minutes(1);
            line(x, 0, 0, 4, 11, 0);
            line(x, 8, 0, 0, 7, 1);
        });
    }

    private void bookIsFull() {
        edge(6, "THE BOOK (150 lines; no more then)", () -> {
            GravyBoats x = lawful("passes 0;pours 1;");
            for (int i = 0; i < 8; i++) {
                x.boat(0, 99, 5, 1);
            }
            x.minutes(18);
            is(144, x.look(5));
            x.minutes(1);
            is(150, x.look(5));
            line(x, 149, 18, 0, 5, 1);
            is(152, x.look(1));
            x.minutes(10);
            is(150, x.look(5));
            line(x, 0, 0, 0, 0, 1);
            line(x, 149, 18, 0, 5, 1);
            none(x.book(150, 0));
            is(232, x.look(1));
        });
    }
}
