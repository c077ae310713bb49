/** The Terms, part 2 from the PLAN on, and part 3: each sentence that names a boundary. */
final class ToldEdges {
    private static final String ASKED = "Terms 2", TAPES = "Terms 3";
    private static final int NONE = -1, BAD = -2, STATE = -3, FULL = -4, ABSENT = -5;
    private static final int NOTHING = -11, CAST = -12, PLACE = -13, SIZE = -14;
    private static final long NO = Long.MIN_VALUE;
    private static final int HOUR = 0, BUSY = 1, GHOSTLY = 2, LATE = 3, OVER = 4, STANDING = 5, TOLD = 6;
    private static final int KNOCKS = 0, SITS = 1, TELLS = 2;

    private final Sentences s;

    private ToldEdges(Sentences s) {
        this.s = s;
    }

    static void all(Sentences s) {
        ToldEdges e = new ToldEdges(s);
        e.plan();
        e.planEnds();
        e.book();
        e.acts();
        e.bodies();
        e.nextAbove();
        e.trace();
        e.image();
        e.imageOfAll();
        e.tapes();
        e.judged();
        e.judgedEnds();
        e.hostRefuses();
        e.answers();
        e.no();
    }

    private void plan() {
        s.says(ASKED, "A PLAN told by hand: what is done (0 a DAY goes, 1 an HOUR has no ROOM any more, 2 a ROOM has"
            + " no FAULT any more; 8 rows at most):");
        BookedEmpty x = Check.rooms(20);
        x.hour(STANDING, 7, 10, 6, 1);
        x.hour(GHOSTLY, 0, 30, 6, 1);
        x.give(0, 0);
        x.give(1, 0);
        s.due("what 3", x.plan(3, 0), NONE);
        s.due("what -2", x.plan(-2, 0), NONE);
        int[] empty = {2, 4, 4, 4, 4, 4, 4, 4, 4};
        for (int n = 0; n < 8; n++) {
            s.due("by " + n + " DAYS: ends(0)", x.ends(0), empty[n]);
            s.due("plan(0, 0)", x.plan(0, 0), n + 1);
        }
        s.due("the ninth", x.plan(0, 0), FULL);
        s.due("by 8 DAYS: ends(0)", x.ends(0), 4);
        x.pass(1);
        s.due("by 8 DAYS from DAY 1 on: ends(0)", x.ends(0), 2);
        x.plan(-1, 0);
        x.plan(1, 1);
        s.due("the ghost has no ROOM any more: ends(0)", x.ends(0), 2);
        x.plan(1, 0);
        s.due("nor the other: ends(0)", x.ends(0), 0);
        x.plan(1, 0);
        s.due("once more: ends(0)", x.ends(0), 0);
        s.due("told(3): they have one as it is", x.told(3), 2);
        x.fault(0, true);
        x.plan(2, 0);
        s.due("no FAULT any more: ends(0)", x.ends(0), 0);
        s.due("at(0, 1): it has one as it is", x.at(0, 1), 1);
    }

    private void planEnds() {
        s.says(ASKED, "ENDS: how many quarters of all ROOMS are EMPTY then, how many FREE.");
        s.due("no ROOMS: ends(0)", new BookedEmpty().ends(0), 0);
        s.due("no ROOMS: ends(1)", new BookedEmpty().ends(1), 0);
        BookedEmpty x = Check.rooms(20, 20, 20, 20);
        s.due("no PLAN: ends(0)", x.ends(0), 0);
        s.due("no PLAN: ends(1)", x.ends(1), 160);
        x.hour(GHOSTLY, 0, 10, 6, 1);
        x.hour(HOUR, 0, 10, 6, 1);
        x.give(0, 0);
        x.give(1, 3);
        s.due("in the first and the last: ends(0)", x.ends(0), 2);
        s.due("in the first and the last: ends(1)", x.ends(1), 160 - 2 - 6);
        x.plan(1, 1);
        s.due("in the first: ends(1)", x.ends(1), 160 - 2);
    }

    private void book() {
        s.says(ASKED, "A BOOK told by hand: HOURS, ROOMS (or 4: none; 8 rows at most): LOOKED at: the number of the "
            + "first of these rows by which it is otherwise now (-5: none).");
        BookedEmpty x = Check.rooms(20, 20, 20, 20);
        x.hour(HOUR, 0, 10, 1, 1);
        x.hour(HOUR, 0, 11, 1, 1);
        s.due("no rows", x.looked(), ABSENT);
        s.due("room 5", x.book(0, 5), NONE);
        for (int n = 1; n <= 8; n++) {
            s.due("book(" + n % 2 + ", 4) the " + n, x.book(n % 2, 4), n);
        }
        s.due("the ninth", x.book(0, 4), FULL);
        s.due("none has one: all is so", x.looked(), ABSENT);
        x.give(0, 0);
        s.due("the second", x.looked(), 1);
        x.give(1, 0);
        s.due("the first", x.looked(), 0);
        x.book(-1, 0);
        for (int r = 0; r < 4; r++) {
            x.give(0, r);
            x.book(0, r);
            s.due("the first, or the only one: looked() in ROOM " + r, x.looked(), r == 0 ? ABSENT : 0);
        }
        x.book(-1, 0);
        for (int n = 0; n < 7; n++) {
            x.book(0, 3);
        }
        s.due("seven that are so", x.looked(), ABSENT);
        x.book(1, 3);
        s.due("the eighth", x.looked(), 7);
        x.book(-1, 0);
        s.due("none any more", x.looked(), ABSENT);
        x.book(0, 4);
        s.due("none was told, and it has one", x.looked(), 0);
    }

    /** HOUR 0 is an HOUR, and HOUR 1 of a KIND. */
    private static BookedEmpty second(int kind, int v) {
        BookedEmpty x = new BookedEmpty();
        x.hour(HOUR, 0, 0, 1, 1);
        x.hour(kind, v, 0, 1, 1);
        return x;
    }

    private void acts() {
        s.says(ASKED, "ACTS of an HOUR with x (wrapping): 0 knocks, 1 sits, 2 tells; i its number.");
        int most = Integer.MAX_VALUE;
        int least = Integer.MIN_VALUE;
        s.due("x + i", second(HOUR, 0).act(1, KNOCKS, most), least);
        s.due("x + i, just not", second(HOUR, 0).act(0, KNOCKS, most), most);
        s.due("knocks(x) - v", second(HOUR, 9).act(1, SITS, least), least + 1 - 9);
        s.due("knocks(x) - v, below the least", second(HOUR, 2).act(1, SITS, least), most);
        s.due("sits(x) * 2", second(HOUR, 0).act(1, TELLS, (1 << 30) - 1), least);
        s.due("sits(x) * 2, just not", second(HOUR, 0).act(1, TELLS, (1 << 30) - 2), most - 1);
        s.due("super.knocks(x * 3)", second(GHOSTLY, 0).act(1, KNOCKS, 1 << 30), 3 * (1 << 30) + 1);
        s.due("-super.knocks(x)", second(OVER, 0).act(1, KNOCKS, most), least);
        s.due("super.sits(x + 1)", second(OVER, 0).act(1, SITS, most), (most ^ 6));
        s.due("super.tells(x - i)", second(STANDING, 0).act(1, TELLS, least), (most * 3 + 1) * 2);
        s.due("super.tells(x) + sits(1)", second(LATE, 0).act(1, TELLS, (1 << 30) - 2), least);
        s.due("super.sits(x) + super.knocks(2)", second(TOLD, 0).act(1, SITS, most - 1), least + 2);
        s.due("act -1", second(HOUR, 0).act(1, -1, 5), 0);
        s.due("act 3", second(HOUR, 0).act(1, 3, 5), 0);
    }

    private void act(int kind, int act, int x, int want, int... trace) {
        BookedEmpty b = second(kind, 7);
        String call = "KIND " + kind + ": act(1, " + act + ", " + x + ")";
        s.due(call, b.act(1, act, x), want);
        s.due(call + ": count(7)", b.count(7), trace.length);
        for (int i = 0; i < trace.length; i++) {
            s.due(call + ": trace(" + i + ")", b.trace(i), trace[i]);
        }
        s.due(call + ": trace(" + trace.length + ")", b.trace(trace.length), NONE);
    }

    private void bodies() {
        s.says(ASKED, "BODIES: HOUR: 10 knocks: x + i. 11 sits: knocks(x) - v. 12 tells: sits(x) * 2. BUSY: 20 sits:"
            + " super.sits(x) ^ 6. GHOSTLY: 30 knocks: super.knocks(x * 3). LATE: 40 tells: super.tells(x) + "
            + "sits(1). OVER: 50 knocks: -super.knocks(x). 51 sits: super.sits(x + 1). STANDING: 60 tells: "
            + "super.tells(x - i). TOLD: 70 sits: super.sits(x) + super.knocks(2). 71 knocks: super.knocks(x) ^ v.");
        act(HOUR, KNOCKS, 20, 21, 10);
        act(HOUR, SITS, 20, 14, 11, 10);
        act(HOUR, TELLS, 20, 28, 12, 11, 10);
        act(BUSY, SITS, 20, 14 ^ 6, 20, 11, 10);
        act(GHOSTLY, KNOCKS, 20, 61, 30, 10);
        act(LATE, TELLS, 20, 28 + (2 - 7), 40, 12, 11, 10, 11, 10);
        act(OVER, KNOCKS, 20, -21, 50, 10);
        act(OVER, SITS, 20, (-22 - 7) ^ 6, 51, 20, 11, 50, 10);
        act(STANDING, TELLS, 20, (19 * 3 + 1 - 7) * 2, 60, 12, 11, 30, 10);
        act(TOLD, KNOCKS, 20, 21 ^ 7, 71, 10);
        act(TOLD, SITS, 20, (21 ^ 7) - 7 + 3, 70, 11, 71, 10, 10);
        act(TOLD, TELLS, 20, ((21 ^ 7) - 7 + 3) * 2 + ((2 ^ 7) - 7 + 3), 40, 12, 70, 11, 71, 10, 10, 70, 11, 71, 10, 10);
    }

    private void nextAbove() {
        s.says(ASKED, "knocks(..) and so on: the body of its KIND, or, if that has none, of the next KIND above that"
            + " has one; super.knocks(..): so from the KIND above the body's on; all that stands in a body is done "
            + "from the left on.");
        act(BUSY, KNOCKS, 20, 21, 10);
        act(BUSY, TELLS, 20, (14 ^ 6) * 2, 12, 20, 11, 10);
        act(GHOSTLY, SITS, 20, 54, 11, 30, 10);
        act(GHOSTLY, TELLS, 20, 108, 12, 11, 30, 10);
        act(LATE, KNOCKS, 20, 21, 10);
        act(LATE, SITS, 20, 14, 11, 10);
        act(OVER, TELLS, 20, ((-22 - 7) ^ 6) * 2, 12, 51, 20, 11, 50, 10);
        act(STANDING, KNOCKS, 20, 61, 30, 10);
        act(STANDING, SITS, 20, 54, 11, 30, 10);
    }

    private void trace() {
        s.says(ASKED, "THE TRACE: the numbers of the bodies that ran in the latest act(), as they began; the first "
            + "20 are kept.");
        BookedEmpty x = second(TOLD, 0);
        s.due("no act() yet", x.trace(0), NONE);
        x.act(1, TELLS, 0);
        int[] longest = {40, 12, 70, 11, 71, 10, 10, 70, 11, 71, 10, 10};
        for (int i = 0; i < longest.length; i++) {
            s.due("the longest there is: trace(" + i + ")", x.trace(i), longest[i]);
        }
        for (int i = longest.length; i <= 21; i++) {
            s.due("behind it: trace(" + i + ")", x.trace(i), NONE);
        }
        x.act(0, SITS, 0);
        s.due("of the latest: trace(0)", x.trace(0), 11);
        s.due("of the latest: trace(1)", x.trace(1), 10);
        s.due("of the latest: trace(2)", x.trace(2), NONE);
        s.due("of the latest: count(7)", x.count(7), 2);
        x.act(0, 3, 0);
        s.due("none then: trace(0)", x.trace(0), NONE);
        s.due("none then: count(7)", x.count(7), 0);
    }

    private void image() {
        s.says(ASKED, "THE IMAGE: ROOMS, HOURS with all that is theirs, DAY, SEEN, the PLAN, the BOOK, which OFFICE "
            + "holds.");
        BookedEmpty x = new BookedEmpty();
        s.due("of a new one: image()", x.image(), 0);
        x.room(5);
        x.fault(0, true);
        x.hour(TOLD, 9, 1, 12, 5);
        x.row(0, 0, 9);
        x.give(0, 0);
        x.pass(4);
        x.see(0, 0, true, 0);
        x.plan(0, 0);
        x.book(0, 0);
        Check.office(x, "hold 9;day 9");
        s.due("undo()", x.undo(), 0);
        for (int what : new int[] {0, 1, 3, 4, 5}) {
            s.due("count(" + what + ")", x.count(what), 0);
        }
        s.due("DAY", x.told(0), 0);
        s.due("no OFFICE holds: HOLD", x.told(1), 2);
        s.due("no OFFICE holds: QUARTERS", x.told(2), 40);
        s.due("at(0, 0)", x.at(0, 0), NONE);
        s.due("of(0, 0)", x.of(0, 0), -1001);
        s.due("a new ROOM", x.room(6), 0);
        s.due("has no FAULT", x.at(0, 1), 0);
        s.due("a new HOUR", x.hour(TOLD, 0, 1, 1, 1), 0);
        s.due("has no ROOM", x.of(0, 5), ABSENT);
        s.due("has a ROW of 0", x.of(0, 6), 1);
        x = Check.rooms(5);
        x.image();
        x.room(20);
        x.undo();
        s.due("no such ROOM any more: sudden(1, 0, 1)", x.sudden(1, 0, 1), 0);
        s.due("no such ROOM any more: sudden(6, 0, 1)", x.sudden(6, 0, 1), ABSENT);
        s.due("no such ROOM any more: ends(1)", x.ends(1), 40);
    }

    /** Two ROOMS, and of the HOURS one of each KIND but HOUR, all with something of everything. */
    private static BookedEmpty full() {
        BookedEmpty x = Check.rooms(5, 20);
        for (int kind = BUSY; kind <= TOLD; kind++) {
            x.hour(kind, kind + 1, kind * 5, kind, kind + 2);
        }
        for (int part = 0; part < 4; part++) {
            x.row(5, part, 9 - part);
        }
        for (int h = 1; h < 6; h++) {
            x.give(h, 1);
        }
        x.fault(0, true);
        x.pass(6);
        x.see(0, 3, false, 1);
        x.plan(1, 2);
        x.plan(0, 0);
        x.book(0, 4);
        x.book(1, 0);
        Check.office(x, "like 3 h=1;hold 4;day 37");
        return x;
    }

    private void imageOfAll() {
        s.says(ASKED, "THE IMAGE: ROOMS, HOURS with all that is theirs, DAY, SEEN, the PLAN, the BOOK, which OFFICE "
            + "holds.");
        long[] want = Everything.of(full());
        BookedEmpty x = full();
        s.due("image()", x.image(), 6);
        x.room(9);
        x.fault(0, false);
        x.fault(1, true);
        for (int h = 0; h < 6; h++) {
            x.give(h, -1);
        }
        x.give(3, 2);
        for (int part = 0; part < 4; part++) {
            x.row(5, part, part);
        }
        x.pass(60);
        x.see(-1, 0, false, 0);
        x.see(1, 38, true, 2);
        x.see(1, 38, true, 3);
        x.plan(-1, 0);
        x.book(-1, 0);
        x.book(3, 2);
        s.due("undo()", x.undo(), 6);
        alike(want, Everything.of(x));
        BookedEmpty y = full();
        y.image();
        Check.office(y, "mind 3 h=1;hold 7;day 20");
        y.undo();
        s.due("which OFFICE holds: HOLD", y.told(1), 4);
        s.due("which OFFICE holds: QUARTERS", y.told(2), 37);
        s.due("which OFFICE holds: WORTH", y.of(1, 20), 13);
        s.due("OFFICES stay", y.count(2), 2);
        Check.feed(y, "day 9");
        y.tape(1, 3, 1);
        y.item(1, 0, 77);
        y.act(1, TELLS, 7);
        y.undo();
        s.due("THE TEXT stays", y.count(6), 5);
        s.due("TAPES stay", y.read(1, 0), 77);
        s.due("THE TRACE stays", y.trace(0), 12);
        s.due("THE TEXT stays: office()", y.office(), 2);
    }

    private void alike(long[] want, long[] got) {
        for (int i = 0; i < want.length; i++) {
            s.due(Everything.name(i), got[i], want[i]);
        }
    }

    private void tapes() {
        s.says(TAPES, "TAPES 0 .. 5 hold nothing (at first), or a row of 0 bytes, 1 shorts, 2 ints, 3 longs, 4 "
            + "booleans (items 0, 1).");
        BookedEmpty x = new BookedEmpty();
        for (int tape = 0; tape <= 5; tape++) {
            s.due("at first: item(" + tape + ", 0, 1)", x.item(tape, 0, 1), NOTHING);
            s.due("at first: read(" + tape + ", 0)", x.read(tape, 0), NO);
        }
        s.due("tape(-1, 0, 1)", x.tape(-1, 0, 1), NONE);
        s.due("tape(6, 0, 1)", x.tape(6, 0, 1), NONE);
        for (int tape = 0; tape <= 5; tape++) {
            s.due("tape(" + tape + ", 3, 1)", x.tape(tape, 3, 1), 1);
            s.due("item(" + tape + ", 0, ..)", x.item(tape, 0, tape + 7), 1);
        }
        for (int tape = 0; tape <= 5; tape++) {
            s.due("read(" + tape + ", 0)", x.read(tape, 0), tape + 7);
        }
        long[] numbers = {127, 128, -128, -129, 255, 256, 32767, 32768, -32768, -32769, 65536, Integer.MAX_VALUE,
            1L << 31, Integer.MIN_VALUE, -(1L << 31) - 1, 1L << 32, Long.MAX_VALUE, Long.MIN_VALUE + 1, 0, 1, 2, -1};
        for (long v : numbers) {
            long[] want = {(byte) v, (short) v, (int) v, v, v == 0 ? 0 : 1};
            BookedEmpty y = new BookedEmpty();
            for (int sort = 0; sort <= 4; sort++) {
                y.tape(sort, sort, 1);
                y.item(sort, 0, v);
                s.due("sort " + sort + ", " + v, y.read(sort, 0), want[sort]);
            }
        }
        s.due("sort -2", x.tape(0, -2, 1), BAD);
        s.due("sort 5", x.tape(0, 5, 1), BAD);
    }

    /** Three HOURS, in ROOM 1, in none, in ROOM 0, and a row of bytes 1, 4, 0 on TAPE 0 from place 2 on, 6 long. */
    private static BookedEmpty written() {
        BookedEmpty x = Check.rooms(20, 20);
        for (int h = 0; h < 3; h++) {
            x.hour(HOUR, 0, h, 1, 1);
        }
        x.give(0, 1);
        x.give(2, 0);
        x.tape(0, 0, 6);
        int[] row = {9, 9, 1, 4, 0, 1};
        for (int i = 0; i < 6; i++) {
            x.item(0, i, row[i]);
        }
        return x;
    }

    private void judged() {
        s.says(TAPES, "Which ROOM each HOUR has (4: none), told by a row of bytes, from a place on, one by one, is "
            + "JUDGED: the first that is otherwise; -5: none, or there is none to look at;");
        BookedEmpty x = written();
        s.due("all is so", x.judge(0, 2), ABSENT);
        s.due("from another place on: the first is otherwise", x.judge(0, 0), 0);
        s.due("from another place on: the first is otherwise", x.judge(0, 1), 0);
        x.item(0, 4, 1);
        s.due("the last is otherwise", x.judge(0, 2), 2);
        x.item(0, 3, -5);
        s.due("the second is otherwise: none is told by 4", x.judge(0, 2), 1);
        x.item(0, 2, 0);
        s.due("the first is otherwise", x.judge(0, 2), 0);
        x = Check.rooms(20);
        x.tape(0, 0, 2);
        s.due("no HOURS", x.judge(0, 0), ABSENT);
        s.due("no HOURS, behind the row", x.judge(0, 2), ABSENT);
        s.due("no HOURS, the TAPE holds nothing", x.judge(1, 0), ABSENT);
    }

    private void judgedEnds() {
        s.says(TAPES, "100 and how many were looked at, if the row ends ahead of that (or the place is below 0, or "
            + "the TAPE holds nothing).");
        BookedEmpty x = written();
        int[] exact = {1, 4, 0};
        for (int i = 0; i < 3; i++) {
            x.item(0, i + 3, exact[i]);
        }
        s.due("the row ends just behind the last", x.judge(0, 3), ABSENT);
        x.item(0, 4, 1);
        x.item(0, 5, 4);
        s.due("the row ends one ahead", x.judge(0, 4), 102);
        x.item(0, 5, 1);
        s.due("the row ends two ahead", x.judge(0, 5), 101);
        s.due("the second is otherwise ahead of the end", x.judge(0, 4), 1);
        x.item(0, 5, 0);
        s.due("the first is otherwise ahead of the end", x.judge(0, 5), 0);
        s.due("from its end on", x.judge(0, 6), 100);
        s.due("from behind its end on", x.judge(0, 7), 100);
        s.due("from the greatest place on", x.judge(0, Integer.MAX_VALUE), 100);
        s.due("place -1", x.judge(0, -1), 100);
        s.due("the least place", x.judge(0, Integer.MIN_VALUE), 100);
        s.due("the TAPE holds nothing", x.judge(1, 0), 100);
        s.due("the TAPE holds nothing, place -1", x.judge(1, -1), 100);
        x.tape(2, 0, 0);
        s.due("an empty row", x.judge(2, 0), 100);
        x.tape(0, -1, 0);
        s.due("the TAPE holds nothing any more", x.judge(0, 2), 100);
    }

    private void hostRefuses() {
        s.says(TAPES, "The host's refusals: NOTHING (-11): nothing is there; CAST (-12): another sort or KIND; PLACE"
            + " (-13): no such place; SIZE (-14): a size below 0.");
        BookedEmpty x = new BookedEmpty();
        s.due("NOTHING: item()", x.item(0, 0, 1), NOTHING);
        s.due("NOTHING: taken()", x.taken(0, 0), NOTHING);
        s.due("SIZE: tape()", x.tape(0, 0, -1), SIZE);
        x.tape(0, 1, 2);
        x.tape(1, 0, 2);
        s.due("CAST, another sort: shift()", x.shift(0, 0, 1, 0, 1), CAST);
        s.due("CAST, another sort: judge()", x.judge(0, 0), CAST);
        x.hour(HOUR, 0, 0, 1, 1);
        s.due("CAST, another KIND: taken()", x.taken(0, 1), CAST);
        s.due("PLACE: item()", x.item(0, 2, 1), PLACE);
        s.due("PLACE: shift()", x.shift(0, 2, 0, 0, 1), PLACE);
    }

    private void answers() {
        s.says(TAPES, "Answers: NONE (-1) no such number; BAD (-2) a number is not as told; STATE (-3) as told; FULL"
            + " (-4);");
        BookedEmpty x = new BookedEmpty();
        s.due("NONE", BookedEmpty.NONE, NONE);
        s.due("BAD", BookedEmpty.BAD, BAD);
        s.due("STATE", BookedEmpty.STATE, STATE);
        s.due("FULL", BookedEmpty.FULL, FULL);
        s.due("NONE: at(0, 0)", x.at(0, 0), NONE);
        s.due("BAD: room(0)", x.room(0), BAD);
        s.due("STATE: undo()", x.undo(), STATE);
        for (int r = 0; r < 4; r++) {
            x.room(1);
        }
        s.due("FULL: room(1)", x.room(1), FULL);
    }

    private void no() {
        s.says(TAPES, "There is no such number.");
        s.due("NO", BookedEmpty.NO, NO);
        s.due("odds(0, 0)", new BookedEmpty().odds(0, 0), NO);
        s.due("mean(0, 0)", new BookedEmpty().mean(0, 0), NO);
        s.due("read(0, 0)", new BookedEmpty().read(0, 0), NO);
    }
}
