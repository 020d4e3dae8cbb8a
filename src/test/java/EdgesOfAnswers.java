/** Promises 11 to 14: of (and what THE LAW tells), seat, got, book. */
final class EdgesOfAnswers extends Edges {
    EdgesOfAnswers(Sentences sentences) {
        super(sentences);
    }

    @Override
    void all() {
        of();
        ofNone();
        firstLine();
        unwritten();
        held();
        words();
        conditions();
        sums();
        seat();
        seatNone();
        got();
        book();
    }

    // ---- promise 11

    private void of() {
        edge(11, "Of a BOAT what 0 KIND, 1 FULL, 2 AT, 3 HEAD, 4 SKIN, 5 LANDED", () -> {
            GravyBoats x = new GravyBoats();
            x.boat(4, 99, 11, 0);
            x.boat(0, 0, 0, 1);
            x.set(6, 0, 9);
            is(4, x.of(0, 0));
            boat(x, 0, 99, 11, 0, 9, 0);
            is(0, x.of(1, 0));
            boat(x, 1, 0, 0, 1, 0, 0);
        });
        edge(11, ", 6 passes, 7 pours, 8 spills (at its SEAT).", () -> {
            GravyBoats x = new GravyBoats();
            x.boat(0, 30, 0, 1);
            x.boat(0, 0, 11, 0);
            x.set(0, 0, 9);
            x.set(1, 0, 3);
            x.set(0, 11, 0);
            x.set(3, 11, 1);
            is(860, x.of(0, 6));
            is(3, x.of(0, 7));
            is(40, x.of(0, 8));
            is(500, x.of(1, 6));
            is(5, x.of(1, 7));
            is(100, x.of(1, 8));
            // asked for a BOAT at the SHORE of its HEAD, too
            GravyBoats y = new GravyBoats();
            y.boat(0, 30, 10, 1);
            y.act(0, 0, 11);
            is(700, y.of(0, 6));
            is(0, y.of(0, 7));
            is(50, y.of(0, 8));
            is(0, y.look(6));
        });
    }

    private void ofNone() {
        edge(11, "NONE if there is none such, or another what.", () -> {
            GravyBoats x = new GravyBoats();
            for (int n = 0; n <= 8; n++) {
                for (int what = 0; what <= 8; what++) {
                    none(x.of(n, what));
                    none(x.of(-1, what));
                }
                x.boat(1, 50, 5, 1);
            }
            none(x.of(MIN, 0));
            none(x.of(MAX, 0));
            for (int what : new int[] {-1, 9, 10, MIN, MAX}) {
                none(x.of(0, what));
                none(x.of(7, what));
            }
        });
        edge(11, "BOATS 0 .. 7 as they come: KIND", () -> {
            GravyBoats x = boats(8);
            is(5, x.of(0, 2));
            is(5, x.of(7, 2));
            none(x.of(8, 2));
        });
    }

    private void tells(int want, int what, String law) {
        GravyBoats x = lawful(law);
        x.boat(3, 80, 4, 0);
        x.set(0, 4, 2);
        x.set(1, 4, 6);
        x.set(2, 4, -7);
        x.set(3, 4, 1);
        x.set(4, 4, 321);
        x.set(6, 0, 8);
        x.set(7, 0, 5);
        is(want, x.of(0, what));
    }

    private void firstLine() {
        edge(11, "What THE LAW tells of a BOAT at its SEAT for a word: E of the first line with that word whose B is so, or that has none",
            () -> {
                tells(2, 6, "passes 1 when 1=2;passes 2 when 1=1;passes 3 when 1=1;passes 4;");
                tells(1, 6, "passes 1;passes 2;");
                tells(1, 6, "passes 1;passes 2 when 1=1;");
                tells(3, 6, "pours 1;spills 2;passes 3;");
                tells(1, 7, "pours 1;spills 2;passes 3;");
                tells(2, 8, "pours 1;spills 2;passes 3;");
                tells(9, 7, times(15, "pours 1 when 1>1;") + "pours 9 when 1=1;");
            });
        edge(11, "What THE LAW tells of a BOAT at its SEAT for a word: E of the first line with that word whose B is so, or that has none",
            () -> {
                // each BOAT at its own SEAT
                GravyBoats x = lawful("pours seat when full>9;pours 50;");
                x.boat(0, 10, 0, 1);
                x.boat(0, 9, 11, 0);
                x.boat(0, 10, 11, 0);
                is(0, x.of(0, 7));
                is(50, x.of(1, 7));
                is(11, x.of(2, 7));
            });
    }

    /** What is told of a BOAT without a line that is so. */
    private GravyBoats lone(int full, int head, int steady, int fog, int love) {
        GravyBoats x = lawful("passes 1 when 1=2;pours 2 when 1=2;spills 3 when 1=2;");
        x.boat(0, full, 5, head);
        x.set(0, 5, steady);
        x.set(7, 0, fog);
        x.set(2, 5, love);
        return x;
    }

    private void unwritten() {
        edge(11, "(none: passes: 500 and 40 times steady less 50 times fog and 20 times love towards its HEAD", () -> {
            is(700, boats(1).of(0, 6));
            is(500, lone(0, 1, 0, 0, 0).of(0, 6));
            is(860, lone(0, 1, 9, 0, 0).of(0, 6));
            is(50, lone(0, 1, 0, 9, 0).of(0, 6));
            is(680, lone(0, 1, 0, 0, 9).of(0, 6));
            is(540 - 50 + 20, lone(0, 1, 1, 1, 1).of(0, 6));
        });
        edge(11, "pours: thirst and 5 times pirate", () -> {
            GravyBoats x = lone(99, 1, 5, 0, 0);
            is(0, x.of(0, 7));
            x.set(1, 5, 9);
            is(9, x.of(0, 7));
            x.set(3, 5, 1);
            is(14, x.of(0, 7));
            x.set(1, 5, 0);
            is(5, x.of(0, 7));
            // more than it has
            x.set(5, 0, 0);
            is(5, x.of(0, 7));
        });
        edge(11, "spills: 100 less 10 times steady and full)", () -> {
            is(100, lone(0, 1, 0, 0, 0).of(0, 8));
            is(10, lone(0, 1, 9, 0, 0).of(0, 8));
            is(199, lone(99, 1, 0, 0, 0).of(0, 8));
            is(109, lone(99, 1, 9, 0, 0).of(0, 8));
        });
        edge(11, "(love towards its HEAD: love, HEAD 0: less love.)", () -> {
            is(520, lone(0, 1, 0, 0, 1).of(0, 6));
            is(480, lone(0, 0, 0, 0, 1).of(0, 6));
            is(480, lone(0, 1, 0, 0, -1).of(0, 6));
            is(520, lone(0, 0, 0, 0, -1).of(0, 6));
            is(320, lone(0, 0, 0, 0, 9).of(0, 6));
        });
        edge(11, "LOVE -9 .. 9 (0 at first; above 0: for SHORE 11)", () -> {
            is(680, lone(0, 1, 0, 0, 9).of(0, 6));
            is(320, lone(0, 1, 0, 0, -9).of(0, 6));
            is(680, lone(0, 0, 0, 0, -9).of(0, 6));
        });
    }

    private void held() {
        edge(11, ", passes, spills held to 0 .. 1000, pours to 0 .. 99", () -> {
            String[] words = {"passes", "pours", "spills"};
            for (int i = 0; i < 3; i++) {
                int most = i == 1 ? 99 : 1000;
                tells(0, 6 + i, words[i] + " 0;");
                tells(0, 6 + i, words[i] + " 0-1;");
                tells(0, 6 + i, words[i] + " 0-9999*9999;");
                tells(1, 6 + i, words[i] + " 1;");
                tells(most - 1, 6 + i, words[i] + " " + (most - 1) + ";");
                tells(most, 6 + i, words[i] + " " + most + ";");
                tells(most, 6 + i, words[i] + " " + (most + 1) + ";");
                tells(most, 6 + i, words[i] + " 9999*9999;");
            }
        });
        edge(11, ", passes, spills held to 0 .. 1000, pours to 0 .. 99", () -> {
            // without a line, too
            is(1000, lone(0, 1, 9, 0, 9).of(0, 6));
            is(0, lone(0, 1, 0, 9, -9).of(0, 6));
            is(1000, lone(0, 1, 8, 0, 9).of(0, 6));
            is(980, lone(0, 1, 8, 0, 8).of(0, 6));
            is(0, lone(0, 1, 0, 8, -5).of(0, 6));
            is(20, lone(0, 1, 0, 8, -4).of(0, 6));
        });
    }

    private void words() {
        edge(11, "kind, full, skin, head: the BOAT's (head: 1, 0)", () -> {
            tells(3, 6, "passes kind;");
            tells(80, 6, "passes full;");
            tells(8, 6, "passes skin;");
            tells(0, 6, "passes head;");
            GravyBoats x = lawful("passes kind*100+full+skin*10+head;");
            x.boat(4, 99, 0, 1);
            x.boat(0, 0, 0, 1);
            x.set(6, 0, 9);
            is(590, x.of(0, 6));
            is(1, x.of(1, 6));
        });
        edge(11, "steady, thirst, love, pirate, stain: the SEAT's (love as it is)", () -> {
            tells(2, 6, "passes steady;");
            tells(6, 6, "passes thirst;");
            tells(93, 6, "passes love+100;");
            tells(7, 6, "passes 0-love;");
            tells(1, 6, "passes pirate;");
            tells(321, 6, "passes stain;");
            for (int head = 0; head < 2; head++) {
                GravyBoats x = lawful("passes 100+love;spills stain;");
                x.boat(0, 0, 5, head);
                x.set(2, 5, -9);
                is(91, x.of(0, 6));
                x.set(2, 5, 9);
                is(109, x.of(0, 6));
                x.set(4, 5, 999);
                is(999, x.of(0, 8));
            }
        });
        edge(11, "seat: its number; fog; minute.", () -> {
            tells(4, 6, "passes seat;");
            tells(5, 6, "passes fog;");
            tells(0, 6, "passes minute;");
            GravyBoats x = lawful("passes minute;spills fog;pours seat;");
            x.boat(0, 0, 0, 1);
            x.boat(0, 0, 11, 0);
            is(0, x.of(0, 7));
            is(11, x.of(1, 7));
            x.act(3, 0, 9);
            x.minutes(7);
            is(7, x.of(0, 6));
            x.set(7, 0, 9);
            is(9, x.of(0, 8));
        });
        edge(11, "seat: its number; fog; minute.", () -> {
            // asked in a MINUTE it is the one that goes by
            GravyBoats x = lawful("passes 1000 when minute=2;passes 0;pours 0;spills 0;");
            x.boat(0, 0, 5, 1);
            x.minutes(2);
            is(5, x.of(0, 2));
            x.minutes(1);
            is(6, x.of(0, 2));
            x.minutes(1);
            is(6, x.of(0, 2));
        });
    }

    private void so(boolean want, String condition) {
        tells(want ? 1 : 2, 6, "passes 1 when " + condition + ";passes 2;");
    }

    private void conditions() {
        edge(11, "C = E (< | = | >) E | not C | ( B ).", () -> {
            so(true, "1<2");
            so(false, "2<2");
            so(false, "3<2");
            so(false, "1=2");
            so(true, "2=2");
            so(false, "3=2");
            so(false, "1>2");
            so(false, "2>2");
            so(true, "3>2");
            so(true, "love<0");
            so(true, "0>0-1");
            so(false, "not 1=1");
            so(true, "not not 1=1");
            so(true, times(8, "not ") + "1=1");
            so(false, times(7, "not ") + "1=1");
            so(true, "((((((((1=1))))))))");
            so(false, "((((((((1=2))))))))");
        });
        edge(11, "B = A {or A}.", () -> {
            so(true, "1=1 or 1=2");
            so(true, "1=2 or 1=1");
            so(false, "1=2 or 1=2");
            so(true, "1=2 or 1=2 or 1=1");
            so(true, "1=1 or 1=1 and 1=2");
            so(true, "1=2 and 1=1 or 1=1");
            so(false, "(1=1 or 1=1) and 1=2");
            so(true, "not 1=1 or 1=1");
            so(false, "not (1=1 or 1=1)");
        });
        edge(11, "A = C {and C}.", () -> {
            so(true, "1=1 and 1=1");
            so(true, "1<2 and 1=1 and 2>1");
            so(true, "not 1=2 and 1=1");
            so(true, "1<2 and not 1>2");
            so(false, "1=1 and 1=2");
            so(false, "1=2 and 1=1");
            so(false, "1=1 and 1=1 and 1=2");
            so(false, "not 1=1 and 1=2");
            so(true, "not (1=1 and 1=2)");
            so(true, "1=2 and 1=2 or 1=1 and 1=1");
            so(false, "1=2 and (1=2 or 1=1) and 1=1");
        });
    }

    private void sums() {
        edge(11, "Ints, which wrap", () -> {
            // 9999 * 9999 = 99980001; times 21 = 2099580021, times 22 = 2199560022 - 2^32 < 0
            tells(1000, 6, "passes 9999*9999*21;");
            tells(0, 6, "passes 9999*9999*22;");
            so(true, "9999*9999*22<0");
            so(true, "0-9999*9999*22>0");
            // 2^31 - 1 and one more; 2^16 * 2^16 = 0
            so(true, "2147*1000*1000+4836*100+47>0");
            so(true, "2147*1000*1000+4836*100+47+1<0");
            so(true, "0-2147*1000*1000-4836*100-48<0");
            so(true, "0-2147*1000*1000-4836*100-49>0");
            so(true, "256*256*256*256=0");
            so(true, "256*256*256*128<0");
        });
        edge(11, "/ goes towards 0.", () -> {
            tells(3, 6, "passes 7/2;");
            tells(7, 6, "passes 10+love/2;");
            tells(10, 6, "passes 10+love/8;");
            tells(9, 6, "passes 10+love/7;");
            tells(0, 6, "passes 1/9999;");
            so(true, "love/2=0-3");
            so(true, "256*256*256*128/9999=0-2147*100-69");
        });
        edge(11, "E = T {(+ | -) T}.", () -> {
            tells(13, 6, "passes 20-3-4;");
            tells(21, 6, "passes 20-3+4;");
            tells(14, 6, "passes 2+3*4;");
            tells(8, 6, "passes 2*3+4/2;");
        });
        edge(11, "T = U {* U | / NUMBER}.", () -> {
            tells(30, 6, "passes 7/2*10;");
            tells(7, 6, "passes 7/1;");
            tells(17, 6, "passes 10+7/1;");
            tells(35, 6, "passes 7*10/2;");
            tells(3, 6, "passes 30/3/3;");
            tells(0, 6, "passes 7*0;");
        });
    }

    // ---- promise 12

    private void seat() {
        edge(12, "Of a SEAT what 0 STEADY, 1 THIRST, 2 LOVE, 3 PIRATE, 4 STAIN", () -> {
            GravyBoats x = new GravyBoats();
            int[][] values = {{9, 8, -9, 1, 999}, {0, 1, 9, 0, 1}, {7, 9, -1, 1, 0}};
            int[] seats = {0, 11, 6};
            for (int i = 0; i < 3; i++) {
                for (int what = 0; what < 5; what++) {
                    x.set(what, seats[i], values[i][what]);
                }
            }
            for (int i = 0; i < 3; i++) {
                for (int what = 0; what < 5; what++) {
                    is(values[i][what], x.seat(seats[i], what));
                }
            }
        });
        edge(12, "5 which it reaches (a set, those side by side too).", () -> {
            GravyBoats x = new GravyBoats();
            is(1 << 1, x.seat(0, 5));
            is(1 << 10, x.seat(11, 5));
            for (int seat = 1; seat < 11; seat++) {
                is(1 << seat - 1 | 1 << seat + 1, x.seat(seat, 5));
            }
            lines(x, 3, 4, "seat 0 to 11;seat 11 to 9;seat 0 to 11;seat 5 to 0;");
            is(1 << 1 | 1 << 11 | 1 << 5, x.seat(0, 5));
            is(1 << 10 | 1 << 0 | 1 << 9, x.seat(11, 5));
            is(1 << 8 | 1 << 10 | 1 << 11, x.seat(9, 5));
            is(1 << 4 | 1 << 6 | 1 << 0, x.seat(5, 5));
            is(1 << 3 | 1 << 5, x.seat(4, 5));
            lines(x, 3, 0, "");
            is(1 << 1, x.seat(0, 5));
        });
    }

    private void seatNone() {
        edge(12, "NONE - 99 if there is none such, or another what.", () -> {
            GravyBoats x = new GravyBoats();
            for (int what = 0; what <= 5; what++) {
                for (int seat : new int[] {-1, 12, MIN, MAX}) {
                    is(-100, x.seat(seat, what));
                }
            }
            for (int what : new int[] {-1, 6, MIN, MAX}) {
                is(-100, x.seat(0, what));
                is(-100, x.seat(11, what));
            }
        });
        edge(12, "SEATS 0 .. 11 in a row, the SHORES are 0 and 11.", () -> {
            GravyBoats x = new GravyBoats();
            for (int seat = 0; seat < 12; seat++) {
                is(5, x.seat(seat, 0));
            }
            is(-100, x.seat(-1, 0));
            is(-100, x.seat(12, 0));
        });
    }

    // ---- promise 13

    private void got() {
        edge(13, "GOT of a SHORE (0, 11) and a KIND", () -> {
            GravyBoats x = lawful(ON);
            for (int kind = 0; kind < 4; kind++) {
                x.boat(kind, 10 + kind, 10, 1);
                x.boat(kind + 1, 20 + kind, 1, 0);
            }
            is(8, x.minutes(1));
            for (int kind = 0; kind < 5; kind++) {
                is(kind < 4 ? 10 + kind : 0, x.got(11, kind));
                is(kind > 0 ? 19 + kind : 0, x.got(0, kind));
            }
        });
        edge(13, "NONE if one can't be.", () -> {
            GravyBoats x = new GravyBoats();
            for (int shore : new int[] {-1, 1, 2, 5, 10, 12, MIN, MAX}) {
                none(x.got(shore, 0));
                none(x.got(shore, 4));
            }
            for (int kind : new int[] {-1, 5, MIN, MAX}) {
                none(x.got(0, kind));
                none(x.got(11, kind));
            }
        });
        edge(13, "KINDS 0 .. 4 (gravy, capers, mint, flour, sauce).", () -> {
            GravyBoats x = new GravyBoats();
            none(x.got(0, -1));
            is(0, x.got(0, 0));
            is(0, x.got(0, 4));
            none(x.got(0, 5));
        });
        edge(13, "SEATS 0 .. 11 in a row, the SHORES are 0 and 11.", () -> {
            GravyBoats x = new GravyBoats();
            for (int seat = 0; seat < 12; seat++) {
                is(seat == 0 || seat == 11 ? 0 : -1, x.got(seat, 2));
            }
        });
    }

    // ---- promise 14

    private void book() {
        edge(14, "Of line i of THE BOOK what 0 MINUTE, 1 what, 2 which, 3 how much.", () -> {
            GravyBoats x = boats(2);
            x.act(3, 0, 9);
            x.minutes(9);
            x.act(1, 1, 50);
            x.act(0, 1, 6);
            line(x, 0, 9, 0, 1, 50);
            line(x, 1, 9, 3, 1, 6);
        });
        edge(14, "NONE if there is none such, or another what.", () -> {
            GravyBoats x = boats(1);
            for (int n = 0; n < 3; n++) {
                for (int what = 0; what < 4; what++) {
                    none(x.book(n, what));
                    none(x.book(-1, what));
                }
                none(x.book(MIN, 0));
                none(x.book(MAX, 0));
                for (int what : new int[] {-1, 4, MIN, MAX}) {
                    none(x.book(0, what));
                }
                x.act(1, 0, 1);
            }
            is(0, x.book(2, 0));
            // a line that was undone is none
            x.undo();
            none(x.book(2, 0));
        });
        edge(14, "THE BOOK (150 lines; no more then)", () -> {
            GravyBoats x = boats(2);
            x.set(5, 0, 99);
            x.set(5, 1, 99);
            for (int i = 0; i < 99; i++) {
                x.act(1, 0, 1);
            }
            for (int i = 0; i < 60; i++) {
                x.act(1, 1, 1);
            }
            line(x, 149, 0, 0, 1, 1);
            none(x.book(150, 0));
            line(x, 0, 0, 0, 0, 1);
            is(150, x.look(5));
            is(39, x.of(1, 1));
        });
    }
}
