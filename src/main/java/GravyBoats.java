/** A dinner of which the two ends do not speak; the document's words in capitals are used as it uses them. */
public final class GravyBoats {
    public static final int NONE = -1;

    private static final int SEATS = 12;
    private static final int FAR_SHORE = 11;
    private static final int BOATS = 8;
    private static final int KINDS = 5;
    private static final int TAPE = 400;
    private static final int FED = 20;
    private static final int LINES = 16;
    private static final int BOOK_LINES = 150;
    private static final int LONGEST = 60;
    private static final int LAST_MINUTE = 9999;
    private static final int UNDONE = 6;
    private static final int SPOONS = 12;
    private static final int HOURS = 100;
    private static final int JARS = 9;
    private static final int PEOPLE = 8;
    private static final int LETTER = 12;
    private static final int GRAINS = 40;
    private static final int MODULUS = 1000000007;
    private static final int NO_SEAT = NONE - 99;

    // Of a SEAT, in the order in which set() and seat() count.
    private static final int STEADY = 0;
    private static final int THIRST = 1;
    private static final int LOVE = 2;
    private static final int PIRATE = 3;
    private static final int STAIN = 4;
    private static final int REACHED = 5;
    private static final int SEAT_CELLS = 5;

    // Of a BOAT, in the order in which of() counts.
    private static final int KIND = 0;
    private static final int FULL = 1;
    private static final int AT = 2;
    private static final int HEAD = 3;
    private static final int SKIN = 4;
    private static final int LANDED = 5;
    private static final int BOAT_CELLS = 6;

    // What set() sets beside the things of a SEAT, and the greatest value of each thing that it sets.
    private static final int SET_FULL = 5;
    private static final int SET_SKIN = 6;
    private static final int SET_FOG = 7;
    private static final int[] GREATEST = {9, 9, 9, 1, 999, 99, 9, 9};

    // What act() does.
    private static final int PASSING = 0;
    private static final int POURING = 1;
    private static final int SALTING = 2;
    private static final int SPEAKING = 3;

    // What a line of THE BOOK tells.
    private static final int POURED = 0;
    private static final int SPILT = 1;
    private static final int CAME = 2;
    private static final int PASSED = 3;
    private static final int SALTED = 4;

    // The TEXTS.
    private static final int LAW = 0;
    private static final int VOYAGES = 1;
    private static final int DINNER = 2;
    private static final int REACH = 3;

    // FAULTS.
    private static final int MISPLACED = 1;
    private static final int BEYOND = 2;
    private static final int TOO_MANY = 3;
    private static final int OPEN_AT_MOST = 8;

    // TOKENS: a sign is its own character, a word WORD + its number in WORDS, a NUMBER that many above NUMBER.
    private static final int END = 0;
    private static final int NO_TOKEN = 1;
    private static final int WORD = 200;
    private static final int NUMBER = 1000;
    private static final int DIGITS = 4;
    private static final String SIGNS = ";+-*/()<=>";
    private static final String WORDS = "passes pours spills kind full skin steady thirst love pirate seat head fog stain minute when or and not boat again at talk salt fill turn to ";
    private static final int W_PASSES = WORD;
    private static final int W_SPILLS = WORD + 2;
    private static final int W_KIND = WORD + 3;
    private static final int W_SEAT = WORD + 10;
    private static final int W_FOG = WORD + 12;
    private static final int W_MINUTE = WORD + 14;
    private static final int W_WHEN = WORD + 15;
    private static final int W_OR = WORD + 16;
    private static final int W_AND = WORD + 17;
    private static final int W_NOT = WORD + 18;
    private static final int W_BOAT = WORD + 19;
    private static final int W_AGAIN = WORD + 20;
    private static final int W_AT = WORD + 21;
    private static final int W_TALK = WORD + 22;
    private static final int W_SALT = WORD + 23;
    private static final int W_FILL = WORD + 24;
    private static final int W_TURN = WORD + 25;
    private static final int W_TO = WORD + 26;

    // What THE LAW is asked.
    private static final int PASSES = 0;
    private static final int POURS = 1;
    private static final int SPILLS = 2;

    // Steps of THE LAW's code: a step stands above its number.
    private static final int STEP_BITS = 14;
    private static final int STEP_MASK = (1 << STEP_BITS) - 1;
    private static final int PUT_NUMBER = 0;
    private static final int PUT_WORD = 1;
    private static final int PART = 2;
    private static final int NEGATE = 3;
    private static final int PLUS = 4;
    private static final int MINUS = 5;
    private static final int TIMES = 6;
    private static final int BELOW = 7;
    private static final int ALIKE = 8;
    private static final int ABOVE = 9;
    private static final int BOTH_SO = 10;
    private static final int ONE_SO = 11;

    private final World world = new World();
    private final World kept = new World();
    private boolean imageTaken;
    private final Past past = new Past();
    private final Table thoughtTable = new Table();
    private final Course course = new Course(world, world.table, false);
    private final Course thought = new Course(world, thoughtTable, true);
    private final Seating seating = new Seating(world);
    private final Reckoning reckoning = new Reckoning();
    private final int[] tape = new int[TAPE];
    private int taped;
    private final Reader reader = new Reader(tape);

    public GravyBoats() {
    }

    public int state(int v) {
        int before = world.table.draws;
        world.table.draws = v;
        past.forget();
        return before;
    }

    public int boat(int kind, int full, int at, int head) {
        Table table = world.table;
        boolean fits = within(kind, 0, KINDS - 1) && within(full, 0, GREATEST[SET_FULL])
                && within(at, 0, FAR_SHORE) && within(head, 0, 1);
        if (!fits || at == shoreOf(head) || table.boats >= BOATS) {
            return NONE;
        }
        int number = table.boats;
        table.boats = number + 1;
        table.putBoat(KIND, number, kind);
        table.putBoat(FULL, number, full);
        table.putBoat(AT, number, at);
        table.putBoat(HEAD, number, head);
        table.putBoat(SKIN, number, 0);
        table.putBoat(LANDED, number, 0);
        past.forget();
        return number;
    }

    public boolean set(int what, int who, int v) {
        if (!canSet(what, who, v)) {
            return false;
        }
        past.forget();
        if (what == SET_FOG) {
            world.table.fog = v;
        } else if (what == SET_FULL) {
            world.table.putBoat(FULL, who, v);
        } else if (what == SET_SKIN) {
            world.table.putBoat(SKIN, who, v);
        } else {
            world.table.putSeat(what, who, v);
        }
        return true;
    }

    public boolean act(int what, int who, int v) {
        if (!canAct(what, who, v)) {
            return false;
        }
        past.keep(world);
        if (what == PASSING) {
            course.passByHand(who, v);
        } else if (what == POURING) {
            course.pourByHand(who, v);
        } else if (what == SALTING) {
            course.salt(who);
        } else {
            world.table.talk = v;
        }
        return true;
    }

    public int minutes(int n) {
        if (!within(n, 1, LONGEST) || world.table.minute + n > LAST_MINUTE) {
            return NONE;
        }
        int landings = 0;
        for (int i = 0; i < n; i++) {
            past.keep(world);
            landings += course.goByOne();
        }
        return landings;
    }

    public int feed(int a, int b, int c, int d, int e) {
        if (taped + FED > TAPE) {
            return NONE;
        }
        tapeNumber(a);
        tapeNumber(b);
        tapeNumber(c);
        tapeNumber(d);
        tapeNumber(e);
        return taped;
    }

    public boolean end(int n) {
        if (!within(n, 0, taped)) {
            return false;
        }
        taped = n;
        return true;
    }

    public int text(int k) {
        int length = taped;
        taped = 0;
        reader.start(length, world.table.boats);
        if (k == LAW) {
            reader.readLaw();
        } else if (within(k, VOYAGES, REACH)) {
            reader.readLines(k);
        } else {
            return NONE;
        }
        return reader.fault == 0 ? takeText(k) : NONE;
    }

    public int fault(int what) {
        return what == 0 ? reader.fault : what == 1 ? reader.place : NONE;
    }

    public int of(int boat, int what) {
        Table table = world.table;
        if (!within(boat, 0, table.boats - 1) || !within(what, 0, BOAT_CELLS + SPILLS)) {
            return NONE;
        }
        return what < BOAT_CELLS ? table.ofBoat(what, boat) : world.law.tells(table, what - BOAT_CELLS, boat);
    }

    public int seat(int seat, int what) {
        if (!within(seat, 0, FAR_SHORE) || !within(what, 0, REACHED)) {
            return NO_SEAT;
        }
        return what == REACHED ? seating.reachedFrom(seat) : world.table.ofSeat(what, seat);
    }

    public int got(int shore, int kind) {
        if ((shore != 0 && shore != FAR_SHORE) || !within(kind, 0, KINDS - 1)) {
            return NONE;
        }
        return world.table.ofGot(shore, kind);
    }

    public int book(int i, int what) {
        return within(i, 0, world.log.size - 1) && within(what, 0, 3) ? world.log.cell(i, what) : NONE;
    }

    public int goes(int n, int what) {
        if (!within(n, 1, LONGEST) || !within(what, 0, 3)) {
            return NONE;
        }
        thoughtTable.copyFrom(world.table);
        for (int i = 0; i < n; i++) {
            thought.goByOne();
        }
        return thoughtTable.sumOf(what);
    }

    public int brings(int boat, int what) {
        if (!within(boat, 0, world.table.boats - 1) || !within(what, 0, 1)) {
            return NONE;
        }
        thoughtTable.copyFrom(world.table);
        int landed = thoughtTable.ofBoat(LANDED, boat);
        for (int i = 1; i <= LONGEST; i++) {
            thought.goByOne();
            if (thoughtTable.ofBoat(LANDED, boat) != landed) {
                return what == 0 ? thought.broughtBy(boat) : i;
            }
        }
        return NONE;
    }

    public int hands(int from, int to, int what) {
        if (!within(from, 0, FAR_SHORE) || !within(to, 0, FAR_SHORE) || !within(what, 0, 1)) {
            return NONE;
        }
        return seating.shortest(from, to, what == 1);
    }

    public int letter(int end, int word) {
        if (!within(end, 0, 1)) {
            return NONE;
        }
        return tell(end == 0 ? world.nearLetter : world.farLetter, word, 0, within(word, 0, 9));
    }

    public int both(int what) {
        Rows near = world.nearLetter;
        Rows far = world.farLetter;
        if (what == 0) {
            return reckoning.inBoth(near, far);
        }
        if (what == 1) {
            return reckoning.changesBetween(near, far);
        }
        return what == 2 ? near.size + far.size - reckoning.inBoth(near, far) : NONE;
    }

    public int candles(int set, int r, int what) {
        if (!within(set, 0, (1 << SEATS) - 1) || !within(r, 0, FAR_SHORE) || !within(what, 0, 1)) {
            return NONE;
        }
        int more = seating.moreCandles(set, r);
        return what == 0 ? Integer.bitCount(more) : more;
    }

    public int stained(int what) {
        return within(what, 0, 2) ? seating.stainsJoined(what) : NONE;
    }

    public int convoy(int seat, int head) {
        boolean fits = within(seat, 0, 99) && within(head, 0, 1) && !world.convoyBoats.hasFirst(seat);
        return tell(world.convoyBoats, seat, head, fits);
    }

    public int meets(int what) {
        return within(what, 0, 1) ? reckoning.meetings(world.convoyBoats, what == 1) : NONE;
    }

    public int flag(int spoons) {
        return tell(world.flags, spoons, 0, within(spoons, 0, (1 << SPOONS) - 1));
    }

    public int spoons(int flag, int what) {
        if (!within(flag, 0, (1 << SPOONS) - 1) || !within(what, 0, 2)) {
            return NONE;
        }
        if (what == 2) {
            return reckoning.nearestFlag(world.flags, flag);
        }
        return what == 0 ? reckoning.said(flag) : reckoning.wrongRows(flag);
    }

    public int treaty(int n, int k, int what) {
        if (!within(n, 1, GRAINS) || !within(k, 1, 9) || !within(what, 0, 1)) {
            return NONE;
        }
        return reckoning.lumpings(n, k, what == 1);
    }

    public int gives(int a, int b) {
        boolean fits = within(a, 0, PEOPLE - 1) && within(b, 0, PEOPLE - 1) && a != b;
        return tell(world.givings, a, b, fits);
    }

    public int way(int what) {
        if (!within(what, 0, 1)) {
            return NONE;
        }
        return what == 0 ? reckoning.firstOnes(world.givings) : reckoning.roundGoers(world.givings);
    }

    public int cloth(int from, int until) {
        boolean fits = within(from, 0, HOURS - 1) && within(until, from + 1, HOURS);
        return tell(world.spans, from, until, fits);
    }

    public int free(int n, int what) {
        if (!within(n, 1, HOURS - 1) || !within(what, 0, 1)) {
            return NONE;
        }
        return what == 0 ? reckoning.freeHour(world.spans, n) : reckoning.fewestGivenUp(world.spans, n);
    }

    public int report(int a, int b) {
        return tell(world.reports, a, b, within(a, 0, 99) && within(b, a, 99));
    }

    public int sprouts(int what) {
        return within(what, 0, 1) ? reckoning.believed(world.reports, what == 1) : NONE;
    }

    public int jar(int weight, int worth) {
        return tell(world.jars, weight, worth, within(weight, 1, 30) && within(worth, 0, 99));
    }

    public int stowed(int c, int d, int what) {
        if (!within(c, 0, 99) || !within(d, 0, 99) || !within(what, 0, 1)) {
            return NONE;
        }
        return reckoning.stowing(world.jars, c, d, what == 1);
    }

    public int game(int what) {
        return within(what, 0, 1) ? seating.ladling(what == 1) : NONE;
    }

    public boolean undo() {
        return past.goBack(world);
    }

    public boolean image(boolean taken) {
        if (taken) {
            kept.copyFrom(world);
            imageTaken = true;
            return true;
        }
        if (!imageTaken) {
            return false;
        }
        world.copyFrom(kept);
        past.forget();
        return true;
    }

    public int look(int what) {
        Table table = world.table;
        switch (what) {
            case 0: return table.boats;
            case 1: return table.drunk;
            case 2: return table.talk;
            case 3: return table.fog;
            case 4: return table.minute;
            case 5: return world.log.size;
            case 6: return table.draws;
            case 7: return world.law.lines;
            case 8: return world.voyages.size;
            case 9: return world.dinner.size;
            case 10: return world.reaches.size;
            case 11: return past.count;
            default: return NONE;
        }
    }

    private boolean canSet(int what, int who, int v) {
        if (!within(what, 0, SET_FOG) || what >= GREATEST.length) {
            return false;
        }
        int least = what == LOVE ? -GREATEST[LOVE] : 0;
        if (!within(v, least, GREATEST[what])) {
            return false;
        }
        if (what == SET_FOG) {
            return true;
        }
        return what < SEAT_CELLS ? within(who, 0, FAR_SHORE) : within(who, 0, world.table.boats - 1);
    }

    private boolean canAct(int what, int who, int v) {
        if (what == SPEAKING) {
            return within(v, 1, 9);
        }
        if (what == SALTING) {
            return within(who, 0, FAR_SHORE) && world.table.ofSeat(STAIN, who) > 0;
        }
        if (!within(who, 0, world.table.boats - 1)) {
            return false;
        }
        if (what == POURING) {
            return within(v, 1, world.table.ofBoat(FULL, who));
        }
        return what == PASSING && within(v, 0, FAR_SHORE)
                && (seating.reachedFrom(world.table.ofBoat(AT, who)) >> v & 1) == 1;
    }

    private void tapeNumber(int number) {
        for (int shift = 24; shift >= 0; shift -= 8) {
            if (taped < TAPE) {
                tape[taped] = number >>> shift & 255;
                taped++;
            }
        }
    }

    private int takeText(int k) {
        if (k == LAW) {
            world.law.copyFrom(reader.law);
            return world.law.lines;
        }
        Rows told = k == VOYAGES ? world.voyages : k == DINNER ? world.dinner : world.reaches;
        told.copyFrom(reader.rows);
        if (k != REACH) {
            past.forget();
        }
        return told.size;
    }

    /** One more line that is told for thought: NONE as its first number takes all of them away. */
    private static int tell(Rows rows, int a, int b, boolean fits) {
        if (a == NONE) {
            rows.size = 0;
            return 0;
        }
        return fits ? rows.add(a, b, 0, 0) : NONE;
    }

    private static boolean within(int v, int least, int greatest) {
        return v >= least && v <= greatest;
    }

    private static int held(int v, int least, int greatest) {
        return Math.max(least, Math.min(greatest, v));
    }

    private static int shoreOf(int head) {
        return head == 1 ? FAR_SHORE : 0;
    }

    /** Lines of up to four numbers. */
    private static final class Rows {
        private static final int WIDE = 4;
        private final int limit;
        private final int[] cells;
        private int size;

        Rows(int limit) {
            this.limit = Math.max(0, limit);
            this.cells = new int[WIDE * this.limit];
        }

        int add(int a, int b, int c, int d) {
            int from = WIDE * size;
            if (size >= limit || from < 0 || from + WIDE > cells.length) {
                return NONE;
            }
            cells[from] = a;
            cells[from + 1] = b;
            cells[from + 2] = c;
            cells[from + 3] = d;
            size++;
            return size;
        }

        int cell(int line, int column) {
            return within(line, 0, size - 1) && within(column, 0, WIDE - 1) ? cells[WIDE * line + column] : 0;
        }

        boolean hasFirst(int a) {
            for (int i = 0; i < size; i++) {
                if (cell(i, 0) == a) {
                    return true;
                }
            }
            return false;
        }

        void copyFrom(Rows other) {
            size = Math.min(other.size, limit);
            System.arraycopy(other.cells, 0, cells, 0, WIDE * size);
        }
    }

    /** All that a MINUTE or a hand changes but THE BOOK. */
    private static final class Table {
        private int draws;
        private int drunk;
        private int talk;
        private int fog;
        private int minute;
        private int boats;
        private final int[] ofSeats = new int[SEAT_CELLS * SEATS];
        private final int[] ofBoats = new int[BOAT_CELLS * BOATS];
        private final int[] ofShores = new int[2 * KINDS];

        Table() {
            for (int i = 0; i < SEATS; i++) {
                ofSeats[STEADY * SEATS + i] = 5;
            }
        }

        void copyFrom(Table other) {
            draws = other.draws;
            drunk = other.drunk;
            talk = other.talk;
            fog = other.fog;
            minute = other.minute;
            boats = other.boats;
            System.arraycopy(other.ofSeats, 0, ofSeats, 0, ofSeats.length);
            System.arraycopy(other.ofBoats, 0, ofBoats, 0, ofBoats.length);
            System.arraycopy(other.ofShores, 0, ofShores, 0, ofShores.length);
        }

        int draw(int m) {
            draws = 1664525 * draws + 1013904223;
            return m > 0 ? (draws >>> 8) % m : 0;
        }

        int ofSeat(int what, int seat) {
            boolean there = within(what, 0, SEAT_CELLS - 1) && within(seat, 0, SEATS - 1);
            return there ? ofSeats[what * SEATS + seat] : 0;
        }

        void putSeat(int what, int seat, int v) {
            if (within(what, 0, SEAT_CELLS - 1) && within(seat, 0, SEATS - 1)) {
                ofSeats[what * SEATS + seat] = v;
            }
        }

        int ofBoat(int what, int boat) {
            boolean there = within(what, 0, BOAT_CELLS - 1) && within(boat, 0, BOATS - 1);
            return there ? ofBoats[what * BOATS + boat] : 0;
        }

        void putBoat(int what, int boat, int v) {
            if (within(what, 0, BOAT_CELLS - 1) && within(boat, 0, BOATS - 1)) {
                ofBoats[what * BOATS + boat] = v;
            }
        }

        int ofGot(int shore, int kind) {
            return within(kind, 0, KINDS - 1) ? ofShores[(shore == 0 ? 0 : KINDS) + kind] : 0;
        }

        void addGot(int shore, int kind, int more) {
            if (within(kind, 0, KINDS - 1)) {
                ofShores[(shore == 0 ? 0 : KINDS) + kind] += more;
            }
        }

        boolean isAtItsShore(int boat) {
            return ofBoat(AT, boat) == shoreOf(ofBoat(HEAD, boat));
        }

        void thickenSkin(int boat) {
            putBoat(SKIN, boat, Math.min(9, ofBoat(SKIN, boat) + 1));
        }

        void turn(int boat) {
            putBoat(HEAD, boat, 1 - ofBoat(HEAD, boat));
        }

        /** What GOES tells: 0 GOT of all, 1 DRUNK, 2 STAINS of all, 3 SKINS of all. */
        int sumOf(int what) {
            int sum = what == 1 ? drunk : 0;
            for (int i = 0; what == 0 && i < ofShores.length; i++) {
                sum += ofShores[i];
            }
            for (int i = 0; what == 2 && i < SEATS; i++) {
                sum += ofSeat(STAIN, i);
            }
            for (int i = 0; what == 3 && i < boats; i++) {
                sum += ofBoat(SKIN, i);
            }
            return sum;
        }
    }

    /** THE LAW as code that is reckoned from left to right: of each line first its E, then its B. */
    private static final class Law {
        private final int[] code = new int[TAPE];
        private int steps;
        private final int[] asked = new int[LINES];
        // Where the E of a line begins, where its B begins, where the next E begins, and so on.
        private final int[] bounds = new int[2 * LINES + 1];
        private int lines;
        private final int[] pile = new int[64];
        private int high;

        void clear() {
            steps = 0;
            lines = 0;
        }

        void copyFrom(Law other) {
            steps = other.steps;
            lines = other.lines;
            System.arraycopy(other.code, 0, code, 0, code.length);
            System.arraycopy(other.asked, 0, asked, 0, asked.length);
            System.arraycopy(other.bounds, 0, bounds, 0, bounds.length);
        }

        void emit(int step, int number) {
            if (steps >= 0 && steps < code.length) {
                code[steps] = step << STEP_BITS | number;
                steps++;
            }
        }

        /** A line ends here: its word, and where its B begins; its E begins where the line before it ended. */
        void addLine(int word, int middle) {
            if (within(lines, 0, LINES - 1)) {
                asked[lines] = word;
                bounds[2 * lines + 1] = middle;
                bounds[2 * lines + 2] = steps;
                lines++;
            }
        }

        int tells(Table table, int word, int boat) {
            int greatest = word == POURS ? 99 : 1000;
            for (int i = 0; i < lines && i < LINES; i++) {
                int middle = bounds[2 * i + 1];
                int until = bounds[2 * i + 2];
                if (asked[i] == word && (middle == until || reckon(table, boat, middle, until) != 0)) {
                    return held(reckon(table, boat, bounds[2 * i], middle), 0, greatest);
                }
            }
            return held(unwritten(table, word, boat), 0, greatest);
        }

        private int unwritten(Table table, int word, int boat) {
            int seat = table.ofBoat(AT, boat);
            int steady = table.ofSeat(STEADY, seat);
            if (word == POURS) {
                return table.ofSeat(THIRST, seat) + 5 * table.ofSeat(PIRATE, seat);
            }
            if (word == SPILLS) {
                return 100 - 10 * steady + table.ofBoat(FULL, boat);
            }
            int love = table.ofSeat(LOVE, seat);
            int towards = table.ofBoat(HEAD, boat) == 1 ? love : -love;
            return 500 + 40 * steady - 50 * table.fog + 20 * towards;
        }

        private int reckon(Table table, int boat, int from, int until) {
            high = 0;
            for (int i = Math.max(0, from); i < until && i < code.length; i++) {
                int step = code[i] >>> STEP_BITS;
                int number = code[i] & STEP_MASK;
                if (step == PUT_NUMBER) {
                    push(number);
                } else if (step == PUT_WORD) {
                    push(worth(table, boat, number));
                } else if (step == PART) {
                    push(number == 0 ? 0 : pop() / number);
                } else if (step == NEGATE) {
                    push(pop() == 0 ? 1 : 0);
                } else {
                    int right = pop();
                    push(joined(step, pop(), right));
                }
            }
            return pop();
        }

        private void push(int v) {
            if (within(high, 0, pile.length - 1)) {
                pile[high] = v;
                high++;
            }
        }

        private int pop() {
            if (!within(high, 1, pile.length)) {
                return 0;
            }
            high--;
            return pile[high];
        }

        private static int joined(int step, int left, int right) {
            switch (step) {
                case PLUS: return left + right;
                case MINUS: return left - right;
                case TIMES: return left * right;
                case BELOW: return left < right ? 1 : 0;
                case ALIKE: return left == right ? 1 : 0;
                case ABOVE: return left > right ? 1 : 0;
                case BOTH_SO: return left & right;
                default: return left | right;
            }
        }

        /** What a word of U is worth, counted from kind as in WORDS. */
        private static int worth(Table table, int boat, int word) {
            int seat = table.ofBoat(AT, boat);
            switch (word) {
                case 0: return table.ofBoat(KIND, boat);
                case 1: return table.ofBoat(FULL, boat);
                case 2: return table.ofBoat(SKIN, boat);
                case 3: return table.ofSeat(STEADY, seat);
                case 4: return table.ofSeat(THIRST, seat);
                case 5: return table.ofSeat(LOVE, seat);
                case 6: return table.ofSeat(PIRATE, seat);
                case 7: return seat;
                case 8: return table.ofBoat(HEAD, boat);
                case 9: return table.fog;
                case 10: return table.ofSeat(STAIN, seat);
                default: return table.minute;
            }
        }
    }

    /** All that THE IMAGE holds. */
    private static final class World {
        private final Table table = new Table();
        private final Law law = new Law();
        private final Rows voyages = new Rows(LINES);
        private final Rows dinner = new Rows(LINES);
        private final Rows reaches = new Rows(LINES);
        private final Rows log = new Rows(BOOK_LINES);
        private final Rows nearLetter = new Rows(LETTER);
        private final Rows farLetter = new Rows(LETTER);
        private final Rows convoyBoats = new Rows(8);
        private final Rows flags = new Rows(10);
        private final Rows givings = new Rows(16);
        private final Rows spans = new Rows(9);
        private final Rows reports = new Rows(8);
        private final Rows jars = new Rows(JARS);

        void copyFrom(World other) {
            table.copyFrom(other.table);
            law.copyFrom(other.law);
            voyages.copyFrom(other.voyages);
            dinner.copyFrom(other.dinner);
            reaches.copyFrom(other.reaches);
            log.copyFrom(other.log);
            nearLetter.copyFrom(other.nearLetter);
            farLetter.copyFrom(other.farLetter);
            convoyBoats.copyFrom(other.convoyBoats);
            flags.copyFrom(other.flags);
            givings.copyFrom(other.givings);
            spans.copyFrom(other.spans);
            reports.copyFrom(other.reports);
            jars.copyFrom(other.jars);
        }
    }

    /** What can be undone: a ring, so that the seventh takes the place of the oldest. */
    private static final class Past {
        private final Table[] tables = new Table[UNDONE];
        // THE BOOK only grows at its end, so how long it was is enough to take it back.
        private final int[] logSizes = new int[UNDONE];
        private int next;
        private int count;

        Past() {
            for (int i = 0; i < UNDONE; i++) {
                tables[i] = new Table();
            }
        }

        void forget() {
            count = 0;
        }

        void keep(World world) {
            if (!within(next, 0, UNDONE - 1) || tables[next] == null) {
                return;
            }
            tables[next].copyFrom(world.table);
            logSizes[next] = world.log.size;
            next = (next + 1) % UNDONE;
            count = Math.min(UNDONE, count + 1);
        }

        boolean goBack(World world) {
            int latest = (next + UNDONE - 1) % UNDONE;
            if (count == 0 || !within(latest, 0, UNDONE - 1) || tables[latest] == null) {
                return false;
            }
            world.table.copyFrom(tables[latest]);
            world.log.size = logSizes[latest];
            next = latest;
            count--;
            return true;
        }
    }

    /** Lets MINUTES go by at a table, in thought or not, and does what is done by hand. */
    private static final class Course {
        private final World world;
        private final Table table;
        private final boolean inThought;
        private final int[] brought = new int[BOATS];

        Course(World world, Table table, boolean inThought) {
            this.world = world;
            this.table = table;
            this.inThought = inThought;
        }

        int broughtBy(int boat) {
            return within(boat, 0, BOATS - 1) ? brought[boat] : 0;
        }

        /** A MINUTE goes by: how many BOATS landed. */
        int goByOne() {
            serve();
            int landings = 0;
            if (table.talk > 0) {
                listen();
            } else {
                for (int i = 0; i < table.boats; i++) {
                    landings += table.isAtItsShore(i) ? 0 : sail(i);
                }
            }
            table.minute++;
            return landings;
        }

        void passByHand(int boat, int seat) {
            table.putBoat(AT, boat, seat);
            write(PASSED, boat, seat);
            if (table.isAtItsShore(boat)) {
                land(boat);
            }
        }

        void pourByHand(int boat, int much) {
            table.putBoat(FULL, boat, table.ofBoat(FULL, boat) - much);
            table.drunk += much;
            write(POURED, boat, much);
        }

        /** By hand or by DINNER, which may salt a clean SEAT: only lines of pours and spills must be above 0. */
        void salt(int seat) {
            write(SALTED, seat, table.ofSeat(STAIN, seat));
            table.putSeat(STAIN, seat, 0);
        }

        private void serve() {
            Rows dinner = world.dinner;
            for (int i = 0; i < dinner.size; i++) {
                if (dinner.cell(i, 0) == table.minute) {
                    serveLine(dinner.cell(i, 1), dinner.cell(i, 2), dinner.cell(i, 3));
                }
            }
        }

        private void serveLine(int word, int first, int second) {
            if (word == W_FOG) {
                table.fog = first;
            } else if (word == W_TALK) {
                table.talk = first;
            } else if (word == W_SALT) {
                salt(first);
            } else if (word == W_FILL) {
                table.putBoat(FULL, first, second);
                table.putBoat(SKIN, first, 0);
            } else {
                table.turn(first);
            }
        }

        private void listen() {
            table.talk--;
            for (int i = 0; i < table.boats; i++) {
                table.thickenSkin(i);
            }
        }

        /** A BOAT's part of a MINUTE: 1 if it lands. */
        private int sail(int boat) {
            pourOut(boat, world.law.tells(table, POURS, boat));
            if (happens(world.law.tells(table, PASSES, boat))) {
                int step = table.ofBoat(HEAD, boat) == 1 ? 1 : -1;
                table.putBoat(AT, boat, table.ofBoat(AT, boat) + step);
                int chance = world.law.tells(table, SPILLS, boat);
                if (chance > 0 && happens(chance)) {
                    spill(boat);
                }
            } else {
                table.thickenSkin(boat);
            }
            if (!table.isAtItsShore(boat)) {
                return 0;
            }
            land(boat);
            return 1;
        }

        private boolean happens(int chance) {
            return inThought ? chance >= 500 : table.draw(1000) < chance;
        }

        private void pourOut(int boat, int wanted) {
            int full = table.ofBoat(FULL, boat);
            int much = Math.min(wanted, full);
            int seat = table.ofBoat(AT, boat);
            table.putBoat(FULL, boat, full - much);
            if (table.ofSeat(PIRATE, seat) == 1) {
                int love = table.ofSeat(LOVE, seat);
                table.putSeat(LOVE, seat, love > 0 ? love - 1 : Math.min(0, love + 1));
            } else {
                table.drunk += much;
            }
            if (much > 0) {
                write(POURED, boat, much);
            }
        }

        private void spill(int boat) {
            int full = table.ofBoat(FULL, boat);
            int much = (full + 2) / 3;
            int seat = table.ofBoat(AT, boat);
            table.putBoat(FULL, boat, full - much);
            table.putSeat(STAIN, seat, Math.min(GREATEST[STAIN], table.ofSeat(STAIN, seat) + much));
            if (much > 0) {
                write(SPILT, boat, much);
            }
        }

        private void land(int boat) {
            int much = Math.max(0, table.ofBoat(FULL, boat) - table.ofBoat(SKIN, boat));
            table.addGot(table.ofBoat(AT, boat), table.ofBoat(KIND, boat), much);
            table.putBoat(LANDED, boat, table.ofBoat(LANDED, boat) + 1);
            table.putBoat(FULL, boat, 0);
            table.putBoat(SKIN, boat, 0);
            if (within(boat, 0, BOATS - 1)) {
                brought[boat] = much;
            }
            write(CAME, boat, much);
            setOutAgain(boat);
        }

        private void setOutAgain(int boat) {
            Rows voyages = world.voyages;
            for (int i = voyages.size - 1; i >= 0; i--) {
                if (voyages.cell(i, 0) == boat) {
                    table.putBoat(FULL, boat, voyages.cell(i, 1));
                    table.turn(boat);
                    return;
                }
            }
        }

        private void write(int what, int which, int much) {
            if (!inThought) {
                world.log.add(table.minute, what, which, much);
            }
        }
    }

    /** Reads the TAPE as a TEXT into rows of its own, so that a FAULT leaves the told one as it was. */
    private static final class Reader {
        private final int[] tape;
        private int length;
        private int boats;
        private final int[] tokens = new int[TAPE + 1];
        private final int[] places = new int[TAPE + 1];
        private int count;
        private int next;
        private int fault;
        private int place = NONE;
        private final Law law = new Law();
        private final Rows rows = new Rows(LINES);

        Reader(int[] tape) {
            this.tape = tape;
        }

        void start(int taped, int boatsThere) {
            length = Math.min(taped, tape.length);
            boats = boatsThere;
            fault = 0;
            place = NONE;
        }

        void readLaw() {
            cutTokens();
            law.clear();
            for (int i = 0; i <= LINES && fault == 0 && now() != END; i++) {
                int word = now() - W_PASSES;
                openLine(i, within(now(), W_PASSES, W_SPILLS));
                readSum();
                int middle = law.steps;
                if (fault == 0 && now() == W_WHEN) {
                    next++;
                    readCondition(0);
                }
                take(';');
                law.addLine(word, middle);
            }
        }

        void readLines(int k) {
            cutTokens();
            rows.size = 0;
            int word = k == VOYAGES ? W_BOAT : k == DINNER ? W_AT : W_SEAT;
            for (int i = 0; i <= LINES && fault == 0 && now() != END; i++) {
                openLine(i, now() == word);
                if (k == VOYAGES) {
                    readVoyage();
                } else if (k == DINNER) {
                    readEvent();
                } else {
                    readReach();
                }
                take(';');
            }
        }

        private void readVoyage() {
            int boat = takeNumber(0, boats - 1);
            take(W_AGAIN);
            rows.add(boat, takeNumber(1, 99), 0, 0);
        }

        private void readEvent() {
            int minute = takeNumber(0, 999);
            int word = now();
            if (word != W_FOG && !within(word, W_TALK, W_TURN)) {
                refuse(MISPLACED);
                return;
            }
            take(word);
            int greatest = word == W_SALT ? FAR_SHORE : word == W_FILL || word == W_TURN ? boats - 1 : 9;
            int first = takeNumber(0, greatest);
            rows.add(minute, word, first, word == W_FILL ? takeNumber(0, 99) : 0);
        }

        private void readReach() {
            int seat = takeNumber(0, FAR_SHORE);
            take(W_TO);
            if (fault == 0 && now() >= NUMBER && Math.abs(now() - NUMBER - seat) <= 1) {
                refuse(BEYOND);
            }
            rows.add(seat, takeNumber(0, FAR_SHORE), 0, 0);
        }

        private void readCondition(int open) {
            int ors = 0;
            int ands = 0;
            for (int i = 0; i < TAPE && fault == 0; i++) {
                readSingle(open);
                if (ands > 0) {
                    law.emit(BOTH_SO, 0);
                }
                if (fault == 0 && now() == W_AND) {
                    ands = 1;
                    next++;
                    continue;
                }
                if (ors > 0) {
                    law.emit(ONE_SO, 0);
                }
                if (fault != 0 || now() != W_OR) {
                    return;
                }
                ands = 0;
                ors = 1;
                next++;
            }
        }

        private void readSingle(int open) {
            int nots = 0;
            while (now() == W_NOT && open + nots < OPEN_AT_MOST) {
                nots++;
                next++;
            }
            if (now() != W_NOT && now() != '(') {
                readSum();
                int sign = now();
                take(sign == '<' || sign == '>' ? sign : '=');
                readSum();
                law.emit(sign == '<' ? BELOW : sign == '>' ? ABOVE : ALIKE, 0);
            } else if (open + nots >= OPEN_AT_MOST) {
                refuse(TOO_MANY);
            } else {
                next++;
                readCondition(open + nots + 1);
                take(')');
            }
            for (int i = 0; i < nots; i++) {
                law.emit(NEGATE, 0);
            }
        }

        private void readSum() {
            readProduct();
            for (int i = 0; i < TAPE && fault == 0 && (now() == '+' || now() == '-'); i++) {
                int step = now() == '+' ? PLUS : MINUS;
                next++;
                readProduct();
                law.emit(step, 0);
            }
        }

        private void readProduct() {
            readUnit();
            for (int i = 0; i < TAPE && fault == 0 && (now() == '*' || now() == '/'); i++) {
                boolean times = now() == '*';
                next++;
                if (times) {
                    readUnit();
                    law.emit(TIMES, 0);
                } else {
                    law.emit(PART, takeNumber(1, LAST_MINUTE));
                }
            }
        }

        private void readUnit() {
            int token = now();
            if (fault != 0) {
                return;
            }
            if (token >= NUMBER) {
                law.emit(PUT_NUMBER, token - NUMBER);
            } else if (within(token, W_KIND, W_MINUTE)) {
                law.emit(PUT_WORD, token - W_KIND);
            } else {
                refuse(MISPLACED);
                return;
            }
            next++;
        }

        private void openLine(int line, boolean rightWord) {
            if (!rightWord) {
                refuse(MISPLACED);
            } else if (line >= LINES) {
                refuse(TOO_MANY);
            } else {
                next++;
            }
        }

        private void take(int token) {
            if (now() == token && fault == 0) {
                next++;
            } else {
                refuse(MISPLACED);
            }
        }

        private int takeNumber(int least, int greatest) {
            int v = now() - NUMBER;
            if (v < 0) {
                refuse(MISPLACED);
                return 0;
            }
            if (!within(v, least, greatest)) {
                refuse(BEYOND);
            }
            if (fault == 0) {
                next++;
            }
            return v;
        }

        /** Only the first FAULT counts: the reading goes forward, so it has the least place. */
        private void refuse(int code) {
            if (fault == 0) {
                fault = code;
                place = next >= 0 && next < count ? places[next] : length;
            }
        }

        private int now() {
            return next >= 0 && next < count ? tokens[next] : END;
        }

        private void cutTokens() {
            count = 0;
            next = 0;
            int until = 0;
            for (int i = 0; i < length; i = Math.max(i + 1, until)) {
                until = runEnd(i);
                if (charAt(i) != ' ' && charAt(i) != '\n' && count < TAPE) {
                    tokens[count] = tokenOf(i, until);
                    places[count] = i;
                    count++;
                }
            }
        }

        private int charAt(int i) {
            return within(i, 0, length - 1) && i < tape.length ? tape[i] : 0;
        }

        private int runEnd(int from) {
            boolean letters = isLetter(charAt(from));
            boolean digits = isDigit(charAt(from));
            int i = from + 1;
            while (i < length && (letters && isLetter(charAt(i)) || digits && isDigit(charAt(i)))) {
                i++;
            }
            return i;
        }

        private int tokenOf(int from, int until) {
            int first = charAt(from);
            if (isLetter(first)) {
                return wordOf(from, until);
            }
            if (isDigit(first)) {
                return numberOf(from, until);
            }
            return first < 128 && SIGNS.indexOf((char) first) >= 0 ? first : NO_TOKEN;
        }

        private int numberOf(int from, int until) {
            if (until - from > DIGITS) {
                return NO_TOKEN;
            }
            int v = 0;
            for (int i = from; i < until; i++) {
                v = 10 * v + charAt(i) - '0';
            }
            return NUMBER + v;
        }

        private int wordOf(int from, int until) {
            int word = WORD;
            int begun = 0;
            for (int i = 0; i < WORDS.length(); i++) {
                if (WORDS.charAt(i) == ' ') {
                    if (i - begun == until - from && isWordAt(begun, from, until)) {
                        return word;
                    }
                    word++;
                    begun = i + 1;
                }
            }
            return NO_TOKEN;
        }

        private boolean isWordAt(int begun, int from, int until) {
            for (int i = from; i < until; i++) {
                int at = begun + i - from;
                if (!within(at, 0, WORDS.length() - 1) || WORDS.charAt(at) != charAt(i)) {
                    return false;
                }
            }
            return true;
        }

        private static boolean isLetter(int c) {
            return within(c, 'a', 'z') || within(c, 'A', 'Z');
        }

        private static boolean isDigit(int c) {
            return within(c, '0', '9');
        }
    }

    /** What is thought about the SEATS. */
    private static final class Seating {
        private final World world;
        private final int[] steadies = new int[SEATS];

        Seating(World world) {
            this.world = world;
        }

        int reachedFrom(int seat) {
            int reached = around(seat, 1) & ~(1 << seat);
            Rows reaches = world.reaches;
            for (int i = 0; i < reaches.size; i++) {
                int a = reaches.cell(i, 0);
                int b = reaches.cell(i, 1);
                if (a == seat) {
                    reached |= 1 << b;
                } else if (b == seat) {
                    reached |= 1 << a;
                }
            }
            return reached;
        }

        int shortest(int from, int to, boolean steady) {
            if (!within(from, 0, SEATS - 1) || !within(to, 0, SEATS - 1)) {
                return NONE;
            }
            int edge = 1 << from;
            int seen = edge;
            steadies[from] = 0;
            for (int passes = 0; passes < SEATS; passes++) {
                if ((edge >> to & 1) == 1) {
                    return steady ? steadies[to] : passes;
                }
                edge = nextEdge(edge, seen);
                seen |= edge;
            }
            return NONE;
        }

        private int nextEdge(int edge, int seen) {
            int next = 0;
            for (int i = 0; i < SEATS; i++) {
                int fresh = (edge >> i & 1) == 1 ? reachedFrom(i) & ~seen : 0;
                for (int j = 0; j < SEATS; j++) {
                    if ((fresh >> j & 1) == 1) {
                        int sum = steadies[i] + world.table.ofSeat(STEADY, j);
                        steadies[j] = (next >> j & 1) == 1 ? Math.max(steadies[j], sum) : sum;
                        next |= 1 << j;
                    }
                }
            }
            return next;
        }

        /**
         * From the far end on, each dark SEAT's candle as near to SHORE 0 as still lights it: no set has
         * fewer candles, and of those with as few none is a lesser number.
         */
        int moreCandles(int set, int r) {
            int lit = 0;
            for (int i = 0; i < SEATS; i++) {
                lit |= (set >> i & 1) == 1 ? around(i, r) : 0;
            }
            int more = 0;
            for (int i = SEATS - 1; i >= 0; i--) {
                if ((lit >> i & 1) == 0) {
                    int at = Math.max(0, i - r);
                    more |= 1 << at;
                    lit |= around(at, r);
                }
            }
            return more;
        }

        private static int around(int seat, int r) {
            int set = 0;
            for (int i = Math.max(0, seat - r); i < SEATS && i <= seat + r; i++) {
                set |= 1 << i;
            }
            return set;
        }

        /** 0 how many joined stains, 1 the greatest sum of one, 2 its first SEAT. */
        int stainsJoined(int what) {
            int stains = 0;
            int greatest = NONE;
            int first = NONE;
            int sum = 0;
            int begun = 0;
            for (int i = 0; i < SEATS; i++) {
                int stain = world.table.ofSeat(STAIN, i);
                if (stain > 0 && sum == 0) {
                    stains++;
                    begun = i;
                }
                sum = stain > 0 ? sum + stain : 0;
                if (sum > 0 && sum > greatest) {
                    greatest = sum;
                    first = begun;
                }
            }
            return what == 0 ? stains : what == 1 ? greatest : first;
        }

        /** The well begun game of ladles: how much is taken, or from which SEAT. */
        int ladling(boolean much) {
            int all = 0;
            for (int i = 0; i < SEATS; i++) {
                all ^= nimberOf(world.table.ofSeat(STAIN, i));
            }
            for (int i = 0; all != 0 && i < SEATS; i++) {
                int stain = world.table.ofSeat(STAIN, i);
                int wanted = all ^ nimberOf(stain);
                if (stain > 0 && nimberOf(stain - 1) == wanted) {
                    return much ? 1 : i;
                }
                if (stain > 0 && wanted == 0) {
                    return much ? stain : i;
                }
            }
            return NONE;
        }

        /** From n one goes to n - 1 or to 0, so the least number not among theirs is 1, 2, 1, 2 and so on. */
        private static int nimberOf(int n) {
            return n <= 0 ? 0 : (n & 1) == 1 ? 1 : 2;
        }
    }

    /** What is reckoned from lines that are told for thought. */
    private static final class Reckoning {
        private final int[] grid = new int[(LETTER + 1) * (LETTER + 1)];
        private final int[] weights = new int[1 << JARS];
        private final int[] worths = new int[1 << JARS];

        int inBoth(Rows near, Rows far) {
            for (int i = 0; i <= near.size && i <= LETTER; i++) {
                for (int j = 0; j <= far.size && j <= LETTER; j++) {
                    int most = i == 0 || j == 0 ? 0 : Math.max(gridAt(i - 1, j), gridAt(i, j - 1));
                    if (i > 0 && j > 0 && near.cell(i - 1, 0) == far.cell(j - 1, 0)) {
                        most = gridAt(i - 1, j - 1) + 1;
                    }
                    putGrid(i, j, most);
                }
            }
            return gridAt(near.size, far.size);
        }

        int changesBetween(Rows near, Rows far) {
            for (int i = 0; i <= near.size && i <= LETTER; i++) {
                for (int j = 0; j <= far.size && j <= LETTER; j++) {
                    int fewest = i + j;
                    if (i > 0 && j > 0) {
                        int changed = near.cell(i - 1, 0) == far.cell(j - 1, 0) ? 0 : 1;
                        fewest = Math.min(gridAt(i - 1, j), gridAt(i, j - 1)) + 1;
                        fewest = Math.min(fewest, gridAt(i - 1, j - 1) + changed);
                    }
                    putGrid(i, j, fewest);
                }
            }
            return gridAt(near.size, far.size);
        }

        private int gridAt(int i, int j) {
            return within(i, 0, LETTER) && within(j, 0, LETTER) ? grid[i * (LETTER + 1) + j] : 0;
        }

        private void putGrid(int i, int j, int v) {
            if (within(i, 0, LETTER) && within(j, 0, LETTER)) {
                grid[i * (LETTER + 1) + j] = v;
            }
        }

        /** How many couples meet, or twice the first MINUTE: they near one another by two SEATS a MINUTE. */
        int meetings(Rows convoyBoats, boolean first) {
            int couples = 0;
            int nearest = NONE;
            for (int i = 0; i < convoyBoats.size; i++) {
                for (int j = 0; j < convoyBoats.size; j++) {
                    int apart = convoyBoats.cell(j, 0) - convoyBoats.cell(i, 0);
                    if (convoyBoats.cell(i, 1) == 1 && convoyBoats.cell(j, 1) == 0 && apart > 0) {
                        couples++;
                        nearest = nearest == NONE ? apart : Math.min(nearest, apart);
                    }
                }
            }
            return first ? nearest : couples;
        }

        int said(int flag) {
            int bits = 0;
            for (int row = 0; row < 4; row++) {
                bits |= Integer.bitCount(flag >> 3 * row & 7) >= 2 ? 1 << row : 0;
            }
            return bits;
        }

        int wrongRows(int flag) {
            int wrong = 0;
            for (int row = 0; row < 4; row++) {
                int spoons = flag >> 3 * row & 7;
                wrong += spoons == 0 || spoons == 7 ? 0 : 1;
            }
            return wrong;
        }

        int nearestFlag(Rows flags, int flag) {
            int nearest = NONE;
            int fewest = SPOONS + 1;
            for (int i = 0; i < flags.size; i++) {
                int unlike = Integer.bitCount(flags.cell(i, 0) ^ flag);
                if (unlike < fewest) {
                    fewest = unlike;
                    nearest = i;
                }
            }
            return nearest;
        }

        int lumpings(int n, int k, boolean unlike) {
            for (int i = 0; i < grid.length; i++) {
                grid[i] = i == 0 ? 1 : 0;
            }
            for (int lump = 1; lump <= k; lump++) {
                for (int i = lump; i <= n; i++) {
                    // Downwards a lump meets only sums without it, so that it is taken once at most.
                    int sum = unlike ? n + lump - i : i;
                    if (within(sum, lump, grid.length - 1)) {
                        grid[sum] = (grid[sum] + grid[sum - lump]) % MODULUS;
                    }
                }
            }
            return within(n, 0, grid.length - 1) ? grid[n] : 0;
        }

        int firstOnes(Rows givings) {
            int giving = 0;
            int given = 0;
            for (int i = 0; i < givings.size; i++) {
                giving |= 1 << givings.cell(i, 0);
                given |= 1 << givings.cell(i, 1);
            }
            return given & ~giving;
        }

        int roundGoers(Rows givings) {
            int rounds = 0;
            for (int one = 0; one < PEOPLE; one++) {
                int come = 0;
                for (int step = 0; step < PEOPLE; step++) {
                    int from = step == 0 ? 1 << one : come;
                    for (int i = 0; i < givings.size; i++) {
                        come |= (from >> givings.cell(i, 0) & 1) == 1 ? 1 << givings.cell(i, 1) : 0;
                    }
                }
                rounds |= come & 1 << one;
            }
            return rounds;
        }

        int freeHour(Rows spans, int n) {
            for (int hour = 0; hour + n <= HOURS; hour++) {
                if (inTheWay(spans, hour, n) == 0) {
                    return hour;
                }
            }
            return NONE;
        }

        int fewestGivenUp(Rows spans, int n) {
            int fewest = spans.size;
            for (int hour = 0; hour + n <= HOURS; hour++) {
                fewest = Math.min(fewest, inTheWay(spans, hour, n));
            }
            return fewest;
        }

        private int inTheWay(Rows spans, int hour, int n) {
            int count = 0;
            for (int i = 0; i < spans.size; i++) {
                count += spans.cell(i, 0) < hour + n && spans.cell(i, 1) > hour ? 1 : 0;
            }
            return count;
        }

        int believed(Rows reports, boolean byHowMany) {
            int most = 0;
            int number = 0;
            for (int v = 0; v < 100; v++) {
                int saying = 0;
                for (int i = 0; i < reports.size; i++) {
                    saying += within(v, reports.cell(i, 0), reports.cell(i, 1)) ? 1 : 0;
                }
                if (saying > most) {
                    most = saying;
                    number = v;
                }
            }
            return byHowMany ? most : number;
        }

        /** The most worth, or the first hold's set: sets come from the least on, so that the first one stays. */
        int stowing(Rows jars, int c, int d, boolean firstHold) {
            int most = 0;
            int first = 0;
            int sets = 1;
            for (int jar = 0; jar < jars.size && 2 * sets <= weights.length; jar++) {
                for (int set = sets; set < 2 * sets; set++) {
                    weights[set] = weights[set - sets] + jars.cell(jar, 0);
                    worths[set] = worths[set - sets] + jars.cell(jar, 1);
                    int part = worths[set] > most ? partFor(set, c, d) : NONE;
                    if (part != NONE) {
                        most = worths[set];
                        first = part;
                    }
                }
                sets *= 2;
            }
            return firstHold ? first : most;
        }

        /** The least part of the set that goes into c while the rest goes into d, or NONE. */
        private int partFor(int set, int c, int d) {
            if (!within(set, 0, weights.length - 1) || weights[set] > c + d) {
                return NONE;
            }
            int part = 0;
            for (int i = 0; i < weights.length && within(part, 0, weights.length - 1); i++) {
                if (within(weights[part], weights[set] - d, c)) {
                    return part;
                }
                if (part == set) {
                    return NONE;
                }
                part = part - set & set;
            }
            return NONE;
        }
    }
}
