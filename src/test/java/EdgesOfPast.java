/** Promises 36 to 38: undo, image, look. */
final class EdgesOfPast extends Edges {
    EdgesOfPast(Sentences sentences) {
        super(sentences);
    }

    @Override
    void all() {
        undo();
        undoOfAll();
        six();
        forgets();
        keeps();
        image();
        imageOfAll();
        imageOfBook();
        notOfImage();
        look();
        looksAtTable();
    }

    // ---- promise 36

    private void undo() {
        edge(36, "UNDO: true; false if there is nothing.", () -> {
            GravyBoats x = boats(1);
            no(x.undo());
            x.minutes(1);
            yes(x.undo());
            no(x.undo());
            is(0, x.look(4));
            no(x.act(1, 0, 51));
            none(x.minutes(61));
            no(x.undo());
        });
        edge(36, "UNDO: the latest MINUTE, PASSING, POURING, SALTING, SPEAKING not undone yet goes back (STATE, THE BOOK, too)",
            () -> {
                for (int left = 4; left >= 0; left--) {
                    GravyBoats x = done(5);
                    is(5, x.look(11));
                    for (int i = 5; i > left; i--) {
                        yes(x.undo());
                    }
                    is(left, x.look(11));
                    yes(table(done(left)).equals(table(x)));
                    no(table(done(left + 1)).equals(table(x)));
                }
                GravyBoats x = done(5);
                for (int i = 0; i < 5; i++) {
                    yes(x.undo());
                }
                no(x.undo());
            });
        edge(36, "UNDO: the latest MINUTE, PASSING, POURING, SALTING, SPEAKING not undone yet goes back (STATE, THE BOOK, too)",
            () -> {
                // one MINUTE of several
                GravyBoats x = busy();
                x.minutes(2);
                String two = table(x);
                x.minutes(3);
                is(5, x.look(11));
                for (int i = 0; i < 3; i++) {
                    yes(x.undo());
                }
                yes(two.equals(table(x)));
                is(2, x.look(4));
                is(2, x.look(11));
            });
        edge(36, "UNDO: the latest MINUTE, PASSING, POURING, SALTING, SPEAKING not undone yet goes back (STATE, THE BOOK, too)",
            () -> {
                // what is done behind an UNDO is the latest then
                GravyBoats x = boats(1);
                x.act(1, 0, 1);
                x.act(1, 0, 2);
                x.undo();
                x.act(1, 0, 4);
                is(45, x.of(0, 1));
                yes(x.undo());
                is(49, x.of(0, 1));
                yes(x.undo());
                is(50, x.of(0, 1));
                no(x.undo());
            });
    }

    /** A table at which each deed can be done. */
    private GravyBoats busy() {
        GravyBoats x = lawful("passes 800;pours 2;spills 800;");
        x.boat(1, 90, 5, 1);
        x.boat(2, 80, 3, 0);
        x.set(4, 9, 77);
        x.set(3, 5, 1);
        x.set(2, 5, -4);
        lines(x, 2, 2, "at 0 fog 3;at 1 fill 1 60;");
        x.state(12345);
        return x;
    }

    /** The first n deeds are done. */
    private GravyBoats done(int n) {
        GravyBoats x = busy();
        for (int i = 0; i < n; i++) {
            deed(x, i);
        }
        return x;
    }

    private void deed(GravyBoats x, int i) {
        if (i == 0) {
            is(0, x.minutes(1));
        } else if (i == 1) {
            yes(x.act(0, 0, x.of(0, 2) - 1));
        } else if (i == 2) {
            yes(x.act(1, 1, 9));
        } else if (i == 3) {
            yes(x.act(2, 9, 0));
        } else {
            yes(x.act(3, 0, 9));
        }
    }

    private void undoOfAll() {
        edge(36, "STATE of draws (an int, 0 at first)", () -> {
            GravyBoats x = boats(3);
            x.state(MIN);
            x.minutes(1);
            yes(x.look(6) != MIN);
            x.undo();
            is(MIN, x.look(6));
        });
        edge(36, "THE BOOK (150 lines; no more then)", () -> {
            GravyBoats x = lawful("passes 0;pours 1;");
            for (int i = 0; i < 8; i++) {
                x.boat(0, 99, 5, 1);
            }
            x.minutes(18);
            x.minutes(2);
            is(150, x.look(5));
            yes(x.undo());
            is(150, x.look(5));
            yes(x.undo());
            is(144, x.look(5));
            none(x.book(144, 0));
            x.act(1, 7, 50);
            is(145, x.look(5));
            line(x, 144, 18, 0, 7, 50);
        });
        edge(36, "Is it then at the SHORE of its HEAD, it lands", () -> {
            // a landing goes back with the MINUTE or the PASSING
            GravyBoats x = lawful(ON);
            x.boat(3, 40, 10, 1);
            lines(x, 1, 1, "boat 0 again 9;");
            x.set(6, 0, 5);
            x.minutes(1);
            boat(x, 0, 9, 11, 0, 0, 1);
            x.undo();
            boat(x, 0, 40, 10, 1, 5, 0);
            is(0, x.got(11, 3));
            x.act(0, 0, 11);
            is(35, x.got(11, 3));
            x.undo();
            boat(x, 0, 40, 10, 1, 5, 0);
            is(0, x.got(11, 3));
            is(0, x.look(5));
        });
    }

    private void six() {
        edge(36, "6 are kept", () -> {
            GravyBoats x = boats(1);
            for (int i = 1; i <= 8; i++) {
                x.act(1, 0, 1);
                is(Math.min(i, 6), x.look(11));
            }
            for (int i = 5; i >= 0; i--) {
                yes(x.undo());
                is(i, x.look(11));
            }
            no(x.undo());
            is(48, x.of(0, 1));
            is(2, x.look(5));
            is(2, x.look(1));
        });
        edge(36, "6 are kept", () -> {
            GravyBoats x = boats(1);
            x.minutes(60);
            is(6, x.look(11));
            for (int i = 0; i < 6; i++) {
                yes(x.undo());
            }
            no(x.undo());
            is(54, x.look(4));
            // and six again
            x.minutes(5);
            x.act(3, 0, 1);
            x.act(3, 0, 2);
            is(6, x.look(11));
            for (int i = 0; i < 6; i++) {
                yes(x.undo());
            }
            no(x.undo());
            is(55, x.look(4));
        });
    }

    private void forgets() {
        edge(36, "; whatever else is told", () -> {
            for (int i = 0; i < 14; i++) {
                GravyBoats x = boats(1);
                x.image(true);
                x.minutes(6);
                is(6, x.look(11));
                if (i == 0) {
                    x.state(x.look(6));
                } else if (i == 1) {
                    x.boat(0, 0, 5, 1);
                } else if (i == 2) {
                    lines(x, 1, 1, "boat 0 again 9;");
                } else if (i == 3) {
                    lines(x, 2, 1, "at 1 fog 0;");
                } else if (i == 4) {
                    lines(x, 1, 0, "");
                } else if (i == 5) {
                    yes(x.image(false));
                } else {
                    yes(x.set(i - 6, 0, i == 6 ? 5 : 0));
                }
                is(0, x.look(11));
                no(x.undo());
                x.minutes(1);
                is(1, x.look(11));
                yes(x.undo());
                no(x.undo());
            }
        });
    }

    private void tellForThought(GravyBoats x) {
        x.letter(0, 1);
        x.letter(1, 2);
        x.convoy(3, 1);
        x.flag(9);
        x.gives(1, 2);
        x.cloth(3, 9);
        x.report(4, 5);
        x.jar(6, 7);
    }

    private void thoughtIs(GravyBoats x, int told) {
        is(told, x.both(1));
        is(told == 0 ? -1 : 0, x.spoons(5, 2));
        is(told == 0 ? 0 : 4, x.way(0));
        is(told == 0 ? 0 : 9, x.free(90, 0));
        is(told, x.sprouts(1));
        is(told == 0 ? 0 : 7, x.stowed(9, 0, 0));
    }

    private void keeps() {
        edge(36, "but THE LAW, REACH and what is told for thought (BOTH, CONVOY, SPOONS, WAY, CLOTH, REPORT, STOWED)", () -> {
            GravyBoats x = boats(1);
            x.minutes(3);
            String three = table(x);
            x.minutes(1);
            lines(x, 0, 1, "pours 7;");
            is(4, x.look(11));
            lines(x, 3, 1, "seat 0 to 9;");
            is(4, x.look(11));
            tellForThought(x);
            is(4, x.look(11));
            yes(x.undo());
            // and they stay as they are told
            is(7, x.of(0, 7));
            is(1, x.look(7));
            is(1 << 1 | 1 << 9, x.seat(0, 5));
            thoughtIs(x, 1);
            is(0, x.letter(0, NONE));
            is(0, x.letter(1, NONE));
            is(0, x.convoy(NONE, 0));
            is(0, x.flag(NONE));
            is(0, x.gives(NONE, 0));
            is(0, x.cloth(NONE, 0));
            is(0, x.report(NONE, 0));
            is(0, x.jar(NONE, 0));
            is(3, x.look(11));
            thoughtIs(x, 0);
            lines(x, 0, 0, "");
            lines(x, 3, 0, "");
            yes(three.equals(table(x)));
        });
        edge(36, "(the taking of THE IMAGE does not) forgets them.", () -> {
            GravyBoats x = boats(1);
            x.minutes(3);
            yes(x.image(true));
            is(3, x.look(11));
            yes(x.undo());
            is(2, x.look(4));
            yes(x.image(true));
            is(2, x.look(11));
            GravyBoats y = boats(1);
            y.minutes(1);
            no(y.image(false));
            is(1, y.look(11));
        });
        edge(36, "(the taking of THE IMAGE does not) forgets them.", () -> {
            // neither does what is refused, asked, or put on the TAPE
            GravyBoats x = boats(1);
            x.minutes(3);
            none(x.boat(5, 0, 0, 1));
            no(x.set(0, 12, 0));
            no(x.act(0, 0, 12));
            none(x.minutes(0));
            x.feed(1, 2, 3, 4, 5);
            x.end(3);
            none(x.text(1));
            none(x.text(9));
            none(x.letter(2, 0));
            x.goes(5, 0);
            x.brings(0, 0);
            x.hands(0, 5, 0);
            x.candles(0, 1, 0);
            x.stained(0);
            x.treaty(5, 5, 0);
            x.game(0);
            is(3, x.look(11));
        });
    }

    // ---- promise 37

    private void image() {
        edge(37, "THE IMAGE is taken (true), or gone back to (false): true; false if there is none.", () -> {
            GravyBoats x = boats(1);
            no(x.image(false));
            is(1, x.look(0));
            yes(x.image(true));
            x.boat(0, 0, 5, 1);
            yes(x.image(false));
            is(1, x.look(0));
        });
        edge(37, "; gone back to it may be more than once.", () -> {
            GravyBoats x = boats(1);
            x.image(true);
            for (int i = 0; i < 3; i++) {
                x.boat(0, 0, 5, 1);
                x.minutes(5);
                yes(x.image(false));
                is(1, x.look(0));
                is(0, x.look(4));
            }
            // the later one takes the place of the first
            x.minutes(7);
            yes(x.image(true));
            x.minutes(1);
            yes(x.image(false));
            is(7, x.look(4));
            yes(x.image(false));
            is(7, x.look(4));
        });
    }

    private void imageOfAll() {
        edge(37, "THE IMAGE: all that is and was told", () -> {
            GravyBoats x = busy();
            lines(x, 1, 1, "boat 0 again 5;");
            lines(x, 3, 1, "seat 0 to 9;");
            tellForThought(x);
            x.minutes(2);
            x.act(3, 0, 4);
            x.image(true);
            String was = table(x);
            x.boat(0, 9, 9, 0);
            x.set(0, 3, 9);
            x.act(3, 0, 9);
            x.minutes(9);
            x.state(5);
            for (int k = 0; k < 4; k++) {
                lines(x, k, 0, "");
            }
            forgetThought(x);
            thoughtIs(x, 0);
            yes(x.image(false));
            yes(was.equals(table(x)));
            thoughtIs(x, 1);
            is(2, x.of(0, 7));
        });
        edge(37, "THE IMAGE: all that is and was told", () -> {
            // what was not told then is not told
            GravyBoats x = boats(1);
            x.image(true);
            String was = table(x);
            tellForThought(x);
            lines(x, 0, 1, "pours 7;");
            lines(x, 1, 1, "boat 0 again 5;");
            lines(x, 2, 1, "at 1 fog 5;");
            lines(x, 3, 1, "seat 0 to 9;");
            x.minutes(9);
            yes(x.image(false));
            yes(was.equals(table(x)));
            thoughtIs(x, 0);
            is(1, x.convoy(3, 1));
        });
        edge(37, "THE IMAGE: all that is and was told", () -> {
            // THE BOOK's lines, too
            GravyBoats x = boats(1);
            x.act(1, 0, 1);
            x.act(1, 0, 2);
            x.image(true);
            x.undo();
            x.undo();
            x.act(1, 0, 9);
            x.image(false);
            is(2, x.look(5));
            line(x, 0, 0, 0, 0, 1);
            line(x, 1, 0, 0, 0, 2);
        });
    }

    private void imageOfBook() {
        edge(37, "THE BOOK (150 lines; no more then)", () -> {
            GravyBoats x = lawful("passes 0;pours 1;");
            for (int i = 0; i < 8; i++) {
                x.boat(0, 99, 5, 1);
            }
            x.minutes(18);
            x.image(true);
            x.minutes(2);
            is(150, x.look(5));
            x.image(false);
            is(144, x.look(5));
            none(x.book(144, 0));
            x.act(0, 3, 6);
            line(x, 144, 18, 3, 3, 6);
            x.minutes(2);
            x.image(true);
            x.minutes(2);
            x.image(false);
            is(150, x.look(5));
            line(x, 144, 18, 3, 3, 6);
        });
    }

    private void forgetThought(GravyBoats x) {
        x.letter(0, NONE);
        x.letter(1, NONE);
        x.convoy(NONE, 0);
        x.flag(NONE);
        x.gives(NONE, 0);
        x.cloth(NONE, 0);
        x.report(NONE, 0);
        x.jar(NONE, 0);
    }

    private void notOfImage() {
        edge(37, "but the TAPE, fault()", () -> {
            GravyBoats x = boats(1);
            faulty(x, 0, 2, 8, "pours 1/0;");
            x.feed(0, 0, 0, 0, 0);
            x.image(true);
            x.end(0);
            faulty(x, 0, 1, 20, times(20, " ") + "x");
            Check.put(x, "pours 7;");
            yes(x.image(false));
            is(1, x.fault(0));
            no(x.end(9));
            yes(x.end(8));
            is(1, x.text(0));
            is(7, x.of(0, 7));
            // without a FAULT it goes on to be without one
            GravyBoats y = boats(1);
            faulty(y, 0, 1, 0, "x");
            y.image(true);
            lines(y, 0, 0, "");
            y.image(false);
            is(0, y.fault(0));
            none(y.fault(1));
        });
        edge(37, "and what can be undone (nothing then), as it was when it was taken", () -> {
            GravyBoats x = boats(1);
            x.minutes(3);
            x.image(true);
            is(3, x.look(11));
            yes(x.image(false));
            is(0, x.look(11));
            no(x.undo());
            is(3, x.look(4));
            x.minutes(2);
            yes(x.image(false));
            is(0, x.look(11));
            no(x.undo());
            x.minutes(1);
            yes(x.undo());
            is(3, x.look(4));
        });
    }

    // ---- promise 38

    private void look() {
        edge(38, "What 0 BOATS, 1 DRUNK, 2 TALK, 3 FOG, 4 MINUTE, 5 lines of THE BOOK, 6 STATE", () -> {
            GravyBoats x = boats(8);
            x.act(1, 0, 50);
            x.set(7, 0, 9);
            x.state(-77);
            x.act(3, 0, 9);
            int[] want = {8, 50, 9, 9, 0, 1, -77};
            for (int what = 0; what < want.length; what++) {
                is(want[what], x.look(what));
            }
            x.minutes(2);
            is(7, x.look(2));
            is(2, x.look(4));
        });
        edge(38, ", 7 lines of THE LAW, 8 of VOYAGES, 9 of DINNER, 10 of REACH, 11 what can be undone.", () -> {
            GravyBoats x = boats(1);
            for (int n : new int[] {16, 1, 0}) {
                lines(x, 0, n, times(n, "pours 1;"));
                lines(x, 1, n, times(n, "boat 0 again 1;"));
                lines(x, 2, n, times(n, "at 9 fog 1;"));
                lines(x, 3, n, times(n, "seat 1 to 3;"));
                for (int what = 7; what <= 10; what++) {
                    is(n, x.look(what));
                }
            }
            for (int i = 1; i <= 7; i++) {
                x.minutes(1);
                is(Math.min(6, i), x.look(11));
            }
        });
        edge(38, "NONE for another what.", () -> {
            GravyBoats x = boats(1);
            for (int what : new int[] {-1, 12, 13, MIN, MAX}) {
                none(x.look(what));
            }
        });
        edge(38, "(STATE as it is.)", () -> {
            GravyBoats x = boats(1);
            for (int v : new int[] {-1, MIN, MAX, 0, -100}) {
                x.state(v);
                is(v, x.look(6));
                is(v, x.look(6));
            }
        });
    }

    private void looksAtTable() {
        edge(38, "BOATS 0 .. 7 as they come: KIND", () -> {
            GravyBoats x = new GravyBoats();
            for (int n = 0; n <= 8; n++) {
                is(n, x.look(0));
                x.boat(0, 0, 5, 1);
            }
            is(8, x.look(0));
        });
        edge(38, "THE BOOK (150 lines; no more then)", () -> {
            GravyBoats x = boats(1);
            lines(x, 2, 16, times(16, "at 0 salt 3;"));
            x.minutes(1);
            is(16, x.look(5));
            x.set(5, 0, 99);
            for (int i = 17; i <= 110; i++) {
                yes(x.act(0, 0, x.of(0, 2) == 5 ? 6 : 5));
                is(i, x.look(5));
            }
            for (int i = 111; i <= 155; i++) {
                yes(x.act(1, 0, 1));
                is(Math.min(150, i), x.look(5));
            }
        });
    }
}
