/** Promises 7 to 10: feed, end, text, fault. */
final class EdgesOfTexts extends Edges {
    private static final String[] LINES = {"pours 1;", "boat 0 again 1;", "at 0 fog 1;", "seat 1 to 3;"};
    private static final String[] UNITS = {"kind", "full", "skin", "steady", "thirst", "love", "pirate", "seat", "head",
        "fog", "stain", "minute"};

    EdgesOfTexts(Sentences sentences) {
        super(sentences);
    }

    @Override
    void all() {
        feed();
        end();
        textLines();
        textRefused();
        grammar();
        units();
        voyages();
        dinner();
        reach();
        sixteen();
        words();
        numbers();
        signs();
        firstFault();
        leastFault();
        misplaced();
        beyond();
        noSuchBoat();
        secondSeat();
        seventeenth();
        ninth();
        forgets();
        fault();
    }

    /** Told to a table with two BOATS. */
    private void ok(int k, int lines, String text) {
        lines(boats(2), k, lines, text);
    }

    private void bad(int k, int code, int place, String text) {
        faulty(boats(2), k, code, place, text);
    }

    // ---- promise 7

    private void feed() {
        edge(7, "Twenty bytes come behind the TAPE, of each number the highest first", () -> {
            GravyBoats x = boats(1);
            is(20, x.feed(0x706f7572, 0x73202020, 0x20202020, 0x20202020, 0x2020373b));
            is(1, x.text(0));
            is(7, x.of(0, 7));
            is(20, x.feed(0x73656174, 0x20312074, 0x6f20393b, 0x73656174, 0x20322074));
            is(40, x.feed(0x6f20383b, 0x20202020, 0x20202020, 0x20202020, 0x20202078));
            none(x.text(3));
            is(1, x.fault(0));
            is(39, x.fault(1));
        });
        edge(7, "Twenty bytes come behind the TAPE, of each number the highest first", () -> {
            // a byte above 127 is none of the signs, whatever number it came in
            for (int number = 0; number < 5; number++) {
                for (int place = 0; place < 4; place++) {
                    GravyBoats x = new GravyBoats();
                    int[] n = {0x20202020, 0x20202020, 0x20202020, 0x20202020, 0x20202020};
                    n[number] ^= 0xc3 << 24 - 8 * place;
                    is(20, x.feed(n[0], n[1], n[2], n[3], n[4]));
                    none(x.text(0));
                    is(1, x.fault(0));
                    is(4 * number + place, x.fault(1));
                }
            }
        });
        edge(7, ": how many it has.", () -> {
            GravyBoats x = new GravyBoats();
            is(20, x.feed(0, 0, 0, 0, 0));
            is(40, x.feed(-1, MIN, MAX, 1, 0));
            yes(x.end(7));
            is(27, x.feed(0, 0, 0, 0, 0));
            yes(x.end(0));
            is(20, x.feed(0, 0, 0, 0, 0));
            x.text(0);
            is(20, x.feed(0, 0, 0, 0, 0));
        });
        edge(7, "NONE, and nothing comes, if there would be more than 400.", () -> {
            GravyBoats x = new GravyBoats();
            for (int i = 1; i <= 20; i++) {
                is(20 * i, x.feed(0x20202020, 0x20202020, 0x20202020, 0x20202020, 0x20202020));
            }
            none(x.feed(0, 0, 0, 0, 0));
            no(x.end(401));
            yes(x.end(400));
            yes(x.end(381));
            none(x.feed(0, 0, 0, 0, 0));
            no(x.end(382));
            yes(x.end(380));
            is(400, x.feed(0x20202020, 0x20202020, 0x20202020, 0x20202020, 0x20202020));
            is(0, x.text(0));
            is(0, x.fault(0));
        });
    }

    // ---- promise 8

    private void end() {
        edge(8, "The TAPE has its first n bytes alone: true", () -> {
            GravyBoats x = new GravyBoats();
            x.feed(0x706f7572, 0x7320373b, 0x706f7572, 0x7320393b, 0);
            yes(x.end(8));
            no(x.end(9));
            yes(x.end(8));
            is(1, x.text(0));
            x.feed(0x706f7572, 0x7320373b, 0x706f7572, 0x7320393b, 0);
            yes(x.end(16));
            is(2, x.text(0));
            // what is cut off does not come back
            x.feed(0x706f7572, 0x7320373b, 0x706f7572, 0x7320393b, 0);
            yes(x.end(0));
            is(0, x.text(0));
        });
        edge(8, "false, changing nothing, if it has not so many", () -> {
            GravyBoats x = new GravyBoats();
            no(x.end(1));
            yes(x.end(0));
            x.feed(0, 0, 0, 0, 0);
            no(x.end(21));
            no(x.end(400));
            no(x.end(MAX));
            is(40, x.feed(0, 0, 0, 0, 0));
            yes(x.end(40));
            no(x.end(41));
        });
        edge(8, "or n is below 0.", () -> {
            GravyBoats x = new GravyBoats();
            no(x.end(-1));
            x.feed(0, 0, 0, 0, 0);
            no(x.end(-1));
            no(x.end(MIN));
            is(40, x.feed(0, 0, 0, 0, 0));
        });
    }

    // ---- promise 9

    private void textLines() {
        edge(9, "The TAPE, empty then, is TEXT k", () -> {
            String[] faults = {"pours", "boat", "at", "seat"};
            for (int k = 0; k < 4; k++) {
                GravyBoats x = boats(1);
                is(1, Check.tell(x, k, LINES[k]));
                no(x.end(1));
                none(Check.tell(x, k, faults[k]));
                no(x.end(1));
                is(20, x.feed(0, 0, 0, 0, 0));
            }
        });
        edge(9, "The TAPE, empty then, is TEXT k", () -> {
            // it takes the place of what was told before, whatever length that had
            for (int k = 0; k < 4; k++) {
                GravyBoats x = boats(1);
                for (int n : new int[] {3, 16, 1, 0}) {
                    is(n, Check.tell(x, k, times(n, LINES[k])));
                    for (int other = 0; other < 4; other++) {
                        is(other == k ? n : 0, x.look(7 + other));
                    }
                }
            }
        });
        edge(9, ": how many lines.", () -> {
            for (int k = 0; k < 4; k++) {
                ok(k, 0, "");
                ok(k, 0, " ");
                ok(k, 0, "\n \n");
                ok(k, 1, LINES[k]);
                ok(k, 16, times(16, LINES[k]));
            }
        });
        edge(9, "The TAPE, empty then, is TEXT k", () -> {
            // nothing of long ones that were told before is left
            GravyBoats x = boats(1);
            for (int i = 0; i < 5; i++) {
                lines(x, 0, 1, "pours 1" + times(196, "+1") + ";");
                is(99, x.of(0, 7));
                none(Check.tell(x, 0, "pours 1" + times(196, "+1") + ","));
            }
            lines(x, 0, 2, "passes 3;pours 7 when 1=1;");
            is(3, x.of(0, 6));
            is(7, x.of(0, 7));
        });
        edge(9, ": how many lines.", () -> {
            StringBuilder law = new StringBuilder("pours 1");
            while (law.length() < 399) {
                law.append("+1");
            }
            ok(0, 1, law.substring(0, 399) + ";");
            ok(0, 0, times(400, " "));
            ok(3, 16, times(16, "seat 10 to 8 ;   ") + times(128, "\n"));
        });
    }

    private void textRefused() {
        edge(9, "NONE: no such one (fault() tells 0)", () -> {
            for (int k : new int[] {-1, 4, 5, MIN, MAX}) {
                GravyBoats x = boats(1);
                none(Check.tell(x, 0, "x"));
                is(1, x.fault(0));
                Check.put(x, "pours 1;");
                none(x.text(k));
                is(0, x.fault(0));
                none(x.fault(1));
                for (int what = 7; what <= 10; what++) {
                    is(0, x.look(what));
                }
            }
        });
        edge(9, "or a FAULT (it stays as it was).", () -> {
            for (int k = 0; k < 4; k++) {
                GravyBoats x = boats(1);
                is(2, Check.tell(x, k, times(2, LINES[k])));
                none(Check.tell(x, k, times(3, LINES[k]) + "x"));
                is(2, x.look(7 + k));
                none(Check.tell(x, k, times(17, LINES[k])));
                is(2, x.look(7 + k));
            }
        });
        edge(9, "or a FAULT (it stays as it was).", () -> {
            GravyBoats x = lawful("passes 1000;pours 7;spills 0;");
            x.boat(0, 50, 10, 1);
            is(1, Check.tell(x, 1, "boat 0 again 9;"));
            is(1, Check.tell(x, 2, "at 0 fog 4;"));
            is(1, Check.tell(x, 3, "seat 1 to 9;"));
            none(Check.tell(x, 0, "pours 8;pours"));
            none(Check.tell(x, 1, "boat 0 again 8;boat 0 again 0;"));
            none(Check.tell(x, 2, "at 0 fog 5;at"));
            none(Check.tell(x, 3, "seat 1 to 8;seat 1 to 2;"));
            is(7, x.of(0, 7));
            is(1 | 1 << 2 | 1 << 9, x.seat(1, 5));
            x.minutes(1);
            is(4, x.look(3));
            is(9, x.of(0, 1));
        });
    }

    private void grammar() {
        edge(9, "0 THE LAW = {(passes | pours | spills) E [when B] ;}.", () -> {
            ok(0, 3, "passes 1;pours 2;spills 3;");
            for (String unit : UNITS) {
                bad(0, 1, 0, unit + " 1;");
                bad(0, 1, 9, "passes 1;" + unit + " 1;");
            }
            ok(0, 2, "pours 1 when 1=1;pours 2;");
            bad(0, 1, 0, "when 1=1;");
            bad(0, 1, 0, "1;");
            bad(0, 1, 6, "passes;");
            bad(0, 1, 7, "passes when 1=1;");
            bad(0, 1, 13, "passes 1 when;");
            bad(0, 1, 9, "passes 1 passes 2;");
            bad(0, 1, 8, "passes 1, pours 2;");
            bad(0, 1, 18, "passes 1 when 1=1 when 2=2;");
        });
        edge(9, "B = A {or A}.", () -> {
            ok(0, 1, "pours 1 when 1=1 or 1=2 or 1=3;");
            bad(0, 1, 13, "pours 1 when or 1=1;");
            bad(0, 1, 19, "pours 1 when 1=1 or;");
            bad(0, 1, 20, "pours 1 when 1=1 or or 1=1;");
            bad(0, 1, 20, "pours 1 when 1=1 or and 1=1;");
        });
        edge(9, "A = C {and C}.", () -> {
            ok(0, 1, "pours 1 when 1=1 and 1=2 and 1=3 or 1=1 and 2=2;");
            bad(0, 1, 13, "pours 1 when and 1=1;");
            bad(0, 1, 20, "pours 1 when 1=1 and;");
            bad(0, 1, 21, "pours 1 when 1=1 and and 1=1;");
        });
        edge(9, "C = E (< | = | >) E | not C | ( B ).", () -> {
            ok(0, 3, "pours 1 when 1<2;pours 1 when 1=2;pours 1 when 1>2;");
            ok(0, 1, "pours 1 when not(1=1 or not 2=2)and(3=3);");
            bad(0, 1, 14, "pours 1 when 1;");
            bad(0, 1, 15, "pours 1 when 1<;");
            bad(0, 1, 15, "pours 1 when 1<=2;");
            bad(0, 1, 13, "pours 1 when <2;");
            bad(0, 1, 16, "pours 1 when 1<2<3;");
            bad(0, 1, 14, "pours 1 when ();");
            bad(0, 1, 17, "pours 1 when (1=1;");
            bad(0, 1, 16, "pours 1 when 1=1);");
            bad(0, 1, 15, "pours 1 when (1)=1;");
            bad(0, 1, 16, "pours 1 when not;");
            bad(0, 1, 15, "pours 1 when 1=not 1=1;");
        });
        edge(9, "E = T {(+ | -) T}.", () -> {
            ok(0, 1, "pours 1+2-3 when 1-1=0+0;");
            bad(0, 1, 6, "pours +1;");
            bad(0, 1, 6, "pours -1;");
            bad(0, 1, 8, "pours 1+;");
            bad(0, 1, 8, "pours 1--1;");
            bad(0, 1, 15, "pours 1 when 1=-1;");
        });
        edge(9, "T = U {* U | / NUMBER}.", () -> {
            ok(0, 1, "pours 1*full*3/4/5*6 when full/2=3;");
            bad(0, 1, 6, "pours *1;");
            bad(0, 1, 8, "pours 1*;");
            bad(0, 1, 8, "pours 1/;");
            bad(0, 1, 8, "pours 1/full;");
            bad(0, 1, 8, "pours 1*(2);");
            bad(0, 1, 10, "pours 1/2 3;");
        });
    }

    private void units() {
        edge(9, "U = NUMBER | kind | full | skin | steady | thirst | love | pirate | seat | head | fog | stain | minute.", () -> {
            for (String unit : UNITS) {
                ok(0, 1, "pours " + unit + " when " + unit + "=" + unit + ";");
            }
            ok(0, 1, "pours 0;");
            ok(0, 1, "pours 9999;");
            String[] others = {"passes", "pours", "spills", "when", "or", "and", "not", "boat", "again", "at", "talk", "salt",
                "fill", "turn", "to", "x", "Full", ";", "+", "-", "*", "/", "(", ")", "<", "=", ">", "10000"};
            for (String other : others) {
                bad(0, 1, 6, "pours " + other + ";");
                bad(0, 1, 10, "pours 1 + " + other + ";");
            }
        });
    }

    private void voyages() {
        edge(9, "1 VOYAGES = {boat BOAT again N ;}", () -> {
            ok(1, 2, "boat 1 again 5;boat 0 again 6;");
            bad(1, 1, 0, "again 5;");
            bad(1, 1, 5, "boat again 5;");
            bad(1, 1, 7, "boat 1 5;");
            bad(1, 1, 12, "boat 1 again;");
            bad(1, 1, 15, "boat 1 again 5 6;");
            bad(1, 1, 14, "boat 1 again 5");
            bad(1, 1, 5, "boat -1 again 5;");
            bad(1, 1, 0, "passes 1;");
        });
        edge(9, "(1 .. 99: so full it sets out again, once it has landed", () -> {
            ok(1, 2, "boat 0 again 1;boat 1 again 99;");
            bad(1, 2, 13, "boat 0 again 0;");
            bad(1, 2, 13, "boat 0 again 100;");
            bad(1, 2, 13, "boat 0 again 9999;");
        });
    }

    private void dinner() {
        edge(9, "2 DINNER = {at MINUTE (fog N | talk N | salt SEAT | fill BOAT N | turn BOAT) ;}", () -> {
            ok(2, 5, "at 1 fog 1;at 1 talk 1;at 1 salt 1;at 1 fill 1 1;at 1 turn 1;");
            bad(2, 1, 0, "fog 1;");
            bad(2, 1, 3, "at fog 1;");
            bad(2, 1, 4, "at 1;");
            bad(2, 1, 5, "at 1 1;");
            bad(2, 1, 8, "at 1 fog;");
            bad(2, 1, 11, "at 1 fog 1 1;");
            bad(2, 1, 9, "at 1 talk;");
            bad(2, 1, 9, "at 1 salt;");
            bad(2, 1, 9, "at 1 fill;");
            bad(2, 1, 11, "at 1 fill 1;");
            bad(2, 1, 14, "at 1 fill 1 1 1;");
            bad(2, 1, 9, "at 1 turn;");
            bad(2, 1, 12, "at 1 turn 1 1;");
            bad(2, 1, 9, "at 1 fog full;");
            bad(2, 1, 5, "at 1 boat 1;");
        });
        edge(9, "(MINUTE 0 .. 999; fog, talk 0 .. 9; fill 0 .. 99.)", () -> {
            ok(2, 2, "at 0 fog 0;at 999 fog 9;");
            bad(2, 2, 3, "at 1000 fog 0;");
            bad(2, 2, 3, "at 9999 fog 0;");
            ok(2, 2, "at 0 talk 0;at 999 talk 9;");
            bad(2, 2, 9, "at 0 fog 10;");
            bad(2, 2, 10, "at 0 talk 10;");
            ok(2, 2, "at 0 fill 0 0;at 0 fill 1 99;");
            bad(2, 2, 12, "at 0 fill 0 100;");
        });
        edge(9, "SEATS 0 .. 11 in a row, the SHORES are 0 and 11.", () -> {
            ok(2, 2, "at 0 salt 0;at 0 salt 11;");
            bad(2, 2, 10, "at 0 salt 12;");
            ok(3, 1, "seat 0 to 11;");
            bad(3, 2, 5, "seat 12 to 1;");
            bad(3, 2, 10, "seat 1 to 12;");
        });
    }

    private void reach() {
        edge(9, "3 REACH = {seat SEAT to SEAT ;} (either way; unlike, not side by side.)", () -> {
            ok(3, 2, "seat 0 to 11;seat 11 to 0;");
            bad(3, 1, 0, "to 1;");
            bad(3, 1, 5, "seat to 1;");
            bad(3, 1, 7, "seat 1 3;");
            bad(3, 1, 9, "seat 1 to;");
            bad(3, 1, 12, "seat 1 to 3 5;");
            bad(3, 1, 0, "boat 1 to 3;");
        });
        edge(9, "3 REACH = {seat SEAT to SEAT ;} (either way; unlike, not side by side.)", () -> {
            for (String text : new String[] {"seat 3 to 9;", "seat 9 to 3;"}) {
                GravyBoats x = boats(1);
                lines(x, 3, 1, text);
                is(1 << 2 | 1 << 4 | 1 << 9, x.seat(3, 5));
                is(1 << 8 | 1 << 10 | 1 << 3, x.seat(9, 5));
                is(1, x.hands(3, 9, 0));
                is(1, x.hands(9, 3, 0));
            }
        });
    }

    private void sixteen() {
        edge(9, "16 lines of each at most.", () -> {
            for (int k = 0; k < 4; k++) {
                GravyBoats x = boats(1);
                lines(x, k, 16, times(16, LINES[k]));
                none(Check.tell(x, k, times(17, LINES[k])));
                is(16, x.look(7 + k));
            }
            // of each: sixteen of all four at once
            GravyBoats x = boats(1);
            for (int k = 0; k < 4; k++) {
                lines(x, k, 16, times(16, LINES[k]));
            }
            for (int k = 0; k < 4; k++) {
                is(16, x.look(7 + k));
            }
        });
        edge(9, "16 lines of each at most.", () -> {
            // the sixteenth line counts
            GravyBoats x = lawful(times(15, "pours 1 when 1=2;") + "pours 8;");
            x.boat(0, 50, 5, 1);
            is(8, x.of(0, 7));
            lines(x, 3, 16, times(15, "seat 1 to 3;") + "seat 4 to 9;");
            is(1 << 8 | 1 << 10 | 1 << 4, x.seat(9, 5));
        });
    }

    private void words() {
        edge(9, "TOKENS: letters as many as stand together are KEYWORDS (those told here for that text) or none", () -> {
            bad(0, 1, 0, "pour 1;");
            bad(0, 1, 0, "pourss 1;");
            bad(0, 1, 0, "pourspasses 1;");
            bad(0, 1, 6, "pours fullfog;");
            bad(0, 1, 0, "Pours 1;");
            bad(0, 1, 0, "POURS 1;");
            bad(0, 1, 8, "pours 1 whenfog=1;");
            bad(0, 1, 6, "pours ful l;");
            bad(1, 1, 0, "boats 1 again 5;");
            bad(1, 1, 7, "boat 1 agai 5;");
            bad(2, 1, 5, "at 1 fogg 1;");
            bad(3, 1, 7, "seat 1 too 3;");
        });
        edge(9, "TOKENS: letters as many as stand together are KEYWORDS (those told here for that text) or none", () -> {
            // KEYWORDS of another text
            bad(1, 1, 0, "seat 1 to 3;");
            bad(1, 1, 0, "at 1 fog 1;");
            bad(2, 1, 0, "boat 1 again 1;");
            bad(2, 1, 5, "at 1 again 1;");
            bad(2, 1, 5, "at 1 full 1;");
            bad(3, 1, 0, "at 1 fog 1;");
            bad(3, 1, 7, "seat 1 again 3;");
            bad(0, 1, 6, "pours talk;");
        });
        edge(9, "digits as many as stand together NUMBERS of 1 to 4 digits or none", () -> {
            ok(0, 1, "pours 0;");
            ok(0, 1, "pours 9999;");
            ok(0, 1, "pours 0009;");
            bad(0, 1, 6, "pours 10000;");
            bad(0, 1, 6, "pours 00000;");
            bad(0, 1, 0, "10000");
            bad(0, 1, 8, "pours 1;10000");
            bad(3, 1, 12, "seat 1 to 3;10000;");
            bad(0, 1, 6, "pours 99999999999999999999;");
            bad(0, 1, 8, "pours 1 2;");
            ok(1, 1, "boat 0001 again 0099;");
            bad(1, 1, 5, "boat 00001 again 1;");
            bad(1, 1, 13, "boat 1 again 00099;");
        });
        edge(9, "digits as many as stand together NUMBERS of 1 to 4 digits or none", () -> {
            GravyBoats x = boats(1);
            lines(x, 0, 1, "passes 0123;");
            is(123, x.of(0, 6));
            lines(x, 0, 1, "passes 0010*10+0008;");
            is(108, x.of(0, 6));
        });
    }

    private void numbers() {
        edge(9, "Blanks (32, 10) between.", () -> {
            ok(0, 1, " \n pours \n 1 \n when \n 1 \n = \n 1 \n ; \n ");
            ok(0, 1, "pours1when1=1;");
            ok(0, 2, "pours1;pours2;");
            ok(1, 1, "boat1again5;");
            ok(2, 1, "at1fill1 5;");
            ok(3, 1, "seat1to3;");
            bad(0, 1, 0, "po urs 1;");
            bad(0, 1, 8, "pours 1 2;");
            bad(0, 1, 0, "po\nurs 1;");
        });
        edge(9, "Blanks (32, 10) between.", () -> {
            for (int c = 0; c < 256; c++) {
                GravyBoats x = new GravyBoats();
                if (c == 32 || c == 10) {
                    lines(x, 0, 0, String.valueOf((char) c));
                } else {
                    faulty(x, 0, 1, 0, String.valueOf((char) c));
                }
            }
        });
    }

    private void signs() {
        edge(9, "; + - * / ( ) < = > .", () -> {
            for (int c = 0; c < 256; c++) {
                String law = "pours 1" + (char) c + ";";
                if (c == 32 || c == 10 || c >= '0' && c <= '9') {
                    ok(0, 1, law);
                } else if (";+-*/".indexOf(c) >= 0) {
                    bad(0, 1, 8, law);
                } else {
                    bad(0, 1, 7, law);
                }
                // where a condition's sign is due
                String so = "pours 1 when 1" + (char) c + "1;";
                if ("<=>".indexOf(c) >= 0) {
                    ok(0, 1, so);
                } else if ("+-*/".indexOf(c) >= 0 || c >= '0' && c <= '9') {
                    bad(0, 1, 16, so);
                } else {
                    bad(0, 1, c == 32 || c == 10 ? 15 : 14, so);
                }
            }
        });
    }

    private void firstFault() {
        edge(9, "FAULTS, the first by its place", () -> {
            bad(0, 2, 8, "pours 1/0 x");
            bad(0, 2, 8, "pours 1/0;pours 1/0;");
            bad(0, 1, 6, "pours ;pours 1/0;");
            bad(0, 1, 8, "pours 1 # 1/0;");
            bad(0, 2, 8, "pours 1/0 when (((((((((1=1;");
            bad(0, 3, 21, "pours 1 when (((((((((1/0=1;");
            bad(0, 2, 8, "pours 1/0;" + times(17, "pours 1;"));
            bad(0, 3, 128, times(17, "pours 1;") + "pours 1/0;");
            bad(1, 2, 5, "boat 9 again 0;");
            bad(1, 2, 5, "boat 9 again");
            bad(1, 2, 13, "boat 1 again 0 x;");
            bad(2, 2, 3, "at 1000 fog 10;");
            bad(2, 2, 3, "at 1000 xxx");
            bad(2, 2, 10, "at 1 fill 9 100;");
            bad(3, 2, 5, "seat 12 to 12;");
            bad(3, 2, 5, "seat 12 12;");
            bad(3, 2, 10, "seat 1 to 1 x");
        });
    }

    private void leastFault() {
        edge(9, ", at one place the least", () -> {
            // no NUMBER at all, so not one beyond its bounds
            bad(1, 1, 5, "boat 10000 again 1;");
            bad(1, 1, 13, "boat 1 again 00000;");
            bad(2, 1, 3, "at 10000 fog 1;");
            bad(3, 1, 10, "seat 1 to 00001;");
            bad(0, 1, 8, "pours 1/00000;");
            // the 9th ( or not that is open, where none can stand
            bad(0, 1, 23, "pours 1 when ((((((((1=(");
            bad(0, 1, 23, "pours 1 when ((((((((1=not");
            bad(0, 1, 22, "pours 1 when ((((((((1(");
            // a 17th line without its KEYWORD
            bad(0, 1, 128, times(16, "pours 1;") + "fog 1;");
            bad(3, 1, 192, times(16, "seat 1 to 3;") + "boat 1 to 3;");
        });
    }

    private void misplaced() {
        edge(9, "1 what can't stand there (the end: the text's length).", () -> {
            String[] texts = {"pours 1 + full * 2 / 3 when not ( 1 < 2 and 2 = 2 ) or 3 > 2 ;", "boat 1 again 9 ;",
                "at 1 fill 1 9 ;", "seat 1 to 9 ;"};
            for (int k = 0; k < 4; k++) {
                String[] tokens = texts[k].split(" ");
                StringBuilder begun = new StringBuilder(LINES[k]);
                for (int i = 0; i < tokens.length - 1; i++) {
                    begun.append(tokens[i]);
                    bad(k, 1, begun.length(), begun.toString());
                    begun.append(" ");
                    bad(k, 1, begun.length(), begun.toString());
                    bad(k, 1, begun.length() + 2, begun + "\n ");
                    bad(k, 1, begun.length(), begun + "#");
                    bad(k, 1, begun.length(), begun + "x" + texts[k]);
                }
                ok(k, 2, begun + ";");
            }
        });
        edge(9, "1 what can't stand there (the end: the text's length).", () -> {
            // a whole TAPE without its ;
            StringBuilder law = new StringBuilder("pours 1");
            while (law.length() < 400) {
                law.append(law.length() == 399 ? " " : "+1");
            }
            bad(0, 1, 400, law.toString());
        });
    }

    private void beyond() {
        edge(9, "2 (at the NUMBER) a part by 0", () -> {
            bad(0, 2, 8, "pours 1/0;");
            bad(0, 2, 8, "pours 1/00;");
            bad(0, 2, 8, "pours 1/0000;");
            bad(0, 2, 10, "pours 1 / 0 ;");
            bad(0, 2, 11, "pours full/0*2;");
            bad(0, 2, 10, "pours 6/3/0;");
            bad(0, 2, 15, "pours 1 when 1/0=1;");
            bad(0, 2, 17, "pours 1 when 1=1/0;");
            ok(0, 1, "pours 1/1;");
            ok(0, 1, "pours 0/9999;");
            ok(0, 1, "pours 1*0;");
            ok(0, 1, "pours 1/0001;");
        });
        edge(9, "one beyond its bounds", () -> {
            bad(1, 2, 13, "boat 1 again 0;");
            bad(1, 2, 13, "boat 1 again 100;");
            bad(2, 2, 3, "at 1000 turn 1;");
            bad(2, 2, 9, "at 0 fog 10;");
            bad(2, 2, 10, "at 0 talk 10;");
            bad(2, 2, 10, "at 0 salt 12;");
            bad(2, 2, 12, "at 0 fill 1 100;");
            bad(3, 2, 5, "seat 12 to 1;");
            bad(3, 2, 10, "seat 1 to 12;");
            bad(3, 2, 10, "seat 1 to 9999;");
        });
    }

    private void noSuchBoat() {
        edge(9, "a BOAT that there is not", () -> {
            for (int n = 0; n <= 8; n++) {
                GravyBoats x = boats(n);
                faulty(x, 1, 2, 5, "boat " + n + " again 5;");
                faulty(x, 2, 2, 10, "at 0 fill " + n + " 5;");
                faulty(x, 2, 2, 10, "at 0 turn " + n + ";");
                if (n > 0) {
                    lines(x, 1, 1, "boat " + (n - 1) + " again 5;");
                    lines(x, 2, 2, "at 0 fill " + (n - 1) + " 5;at 0 turn " + (n - 1) + ";");
                }
            }
            faulty(boats(8), 1, 2, 5, "boat 9999 again 5;");
        });
    }

    private void secondSeat() {
        edge(9, "the second SEAT alike or side by side (of REACH).", () -> {
            for (int a = 0; a < 12; a++) {
                for (int b = 0; b < 12; b++) {
                    String text = "seat " + a + " to " + b + ";";
                    if (Math.abs(a - b) < 2) {
                        bad(3, 2, text.indexOf("to") + 3, text);
                    } else {
                        ok(3, 1, text);
                    }
                }
            }
        });
    }

    private void seventeenth() {
        edge(9, "3 (at its KEYWORD) the 17th line of a text", () -> {
            String[] words = {"spills", "boat", "at", "seat"};
            for (int k = 0; k < 4; k++) {
                int length = 16 * LINES[k].length();
                ok(k, 16, times(16, LINES[k]) + " \n");
                bad(k, 3, length, times(17, LINES[k]));
                bad(k, 3, length + 2, times(16, LINES[k]) + " \n" + words[k]);
                bad(k, 3, length, times(16, LINES[k]) + words[k] + " x");
            }
        });
    }

    private void ninth() {
        edge(9, "(at it) the 9th ( or not that is open.", () -> {
            ok(0, 1, "pours 1 when ((((((((1=1))))))));");
            bad(0, 3, 21, "pours 1 when (((((((((1=1)))))))));");
            ok(0, 1, "pours 1 when " + times(8, "not ") + "1=1;");
            bad(0, 3, 45, "pours 1 when " + times(9, "not ") + "1=1;");
            ok(0, 1, "pours 1 when not(not(not(not(1=1))));");
            bad(0, 3, 29, "pours 1 when not(not(not(not((1=1)))));");
            bad(0, 3, 29, "pours 1 when not(not(not(not(not 1=1))));");
            bad(0, 3, 23, "pours 1 when (((((((not(1=1))))))));");
        });
        edge(9, "(at it) the 9th ( or not that is open.", () -> {
            // closed ones do not count: ) closes a (, the end of its C a not
            ok(0, 1, "pours 1 when " + times(20, "(1=1) and ") + "1=1;");
            ok(0, 1, "pours 1 when " + times(20, "not 1=1 or ") + "1=1;");
            ok(0, 1, "pours 1 when (((((((not 1=1 and not 1=1)))))));");
            ok(0, 1, "pours 1 when not not not not (not not (1=1) and (1=1) or not not not 1=1) and not 1=1;");
            ok(0, 1, "pours 1 when ((((((((1=1)))))))) and not not not not not not not not 1=1;");
            ok(0, 2, times(2, "pours 1 when ((((((((1=1))))))));"));
            ok(0, 1, "pours 1 when (((((((1=1)))))) and (((((((1=1))))))));");
            bad(0, 3, 41, "pours 1 when (((((((1=1)))))) and ((((((((1=1)))))))));");
        });
    }

    private void forgets() {
        edge(9, "whatever else is told but THE LAW, REACH and what is told for thought", () -> {
            for (int k = 0; k < 4; k++) {
                GravyBoats x = boats(1);
                x.minutes(3);
                faulty(x, k, 1, 0, "x");
                none(x.text(4));
                none(x.text(-1));
                is(3, x.look(11));
                lines(x, k, 1, LINES[k]);
                is(k == 0 || k == 3 ? 3 : 0, x.look(11));
            }
            // told empty, too
            for (int k = 1; k <= 2; k++) {
                GravyBoats x = boats(1);
                x.minutes(3);
                lines(x, k, 0, "");
                is(0, x.look(11));
            }
        });
    }

    // ---- promise 10

    private void fault() {
        edge(10, "Of the latest text() what 0 the FAULT (0 without one)", () -> {
            GravyBoats x = boats(1);
            is(0, x.fault(0));
            Check.tell(x, 0, "x");
            is(1, x.fault(0));
            is(1, x.fault(0));
            Check.tell(x, 0, "pours 1/0;");
            is(2, x.fault(0));
            Check.tell(x, 0, times(17, "pours 1;"));
            is(3, x.fault(0));
            x.feed(0, 0, 0, 0, 0);
            x.end(0);
            is(3, x.fault(0));
            x.text(3);
            is(0, x.fault(0));
            Check.tell(x, 1, "x");
            is(1, x.fault(0));
            x.text(9);
            is(0, x.fault(0));
        });
        edge(10, "1 its place (NONE).", () -> {
            GravyBoats x = boats(1);
            none(x.fault(1));
            Check.tell(x, 0, "x");
            is(0, x.fault(1));
            Check.tell(x, 0, times(40, "\n") + "pours 1/0;");
            is(48, x.fault(1));
            Check.tell(x, 0, times(399, " ") + "x");
            is(399, x.fault(1));
            x.text(0);
            none(x.fault(1));
            Check.tell(x, 3, "x");
            is(0, x.fault(1));
            x.text(4);
            none(x.fault(1));
        });
        edge(10, "NONE for another what.", () -> {
            GravyBoats x = boats(1);
            for (int what : new int[] {-1, 2, 3, MIN, MAX}) {
                none(x.fault(what));
            }
            Check.tell(x, 0, "pours 1/0;");
            for (int what : new int[] {-1, 2, 3, MIN, MAX}) {
                none(x.fault(what));
            }
        });
    }
}
