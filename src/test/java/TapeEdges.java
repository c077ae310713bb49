/** Promises 31 to 41, in which order refusals go, and how many calls there are: each sentence that names a boundary. */
final class TapeEdges {
    private static final int NONE = -1, BAD = -2, STATE = -3, FULL = -4, ABSENT = -5;
    private static final int NOTHING = -11, CAST = -12, PLACE = -13, SIZE = -14;
    private static final long NO = Long.MIN_VALUE;
    private static final int HOUR = 0, GHOSTLY = 2, LATE = 3, OVER = 4, STANDING = 5, TOLD = 6;

    private final Sentences s;

    private TapeEdges(Sentences s) {
        this.s = s;
    }

    static void all(Sentences s) {
        TapeEdges e = new TapeEdges(s);
        e.judge();
        e.image();
        e.act();
        e.trace();
        e.taken();
        e.count();
        e.tape();
        e.item();
        e.itemBits();
        e.read();
        e.shift();
        e.shiftRefused();
        e.orderOfHours();
        e.orderOfRest();
        e.orderOfTapes();
        e.calls();
    }

    private void judge() {
        s.says("Promise 31", "JUDGED from place i of a TAPE on.");
        BookedEmpty x = Check.rooms(20);
        x.hour(HOUR, 0, 0, 1, 1);
        x.tape(4, 0, 60);
        x.item(4, 59, 4);
        s.due("from the first place on", x.judge(4, 0), 0);
        s.due("from the last place on", x.judge(4, 59), ABSENT);
        x.tape(4, -1, 0);
        s.says("Promise 31", "NONE: tape;");
        for (int tape : PromiseEdges.not(0, 5)) {
            s.due("judge(" + tape + ", 0)", x.judge(tape, 0), NONE);
        }
        for (int tape = 0; tape <= 5; tape++) {
            s.due("judge(" + tape + ", 0)", x.judge(tape, 0), 100);
        }
        s.says("Promise 31", "CAST: it is no row of bytes.");
        for (int sort = 1; sort <= 4; sort++) {
            x.tape(5, sort, 1);
            s.due("a row of sort " + sort, x.judge(5, 0), CAST);
            s.due("a row of sort " + sort + ", place -1", x.judge(5, -1), CAST);
            s.due("a row of sort " + sort + ", behind it", x.judge(5, 1), CAST);
            BookedEmpty y = new BookedEmpty();
            y.tape(0, sort, 1);
            s.due("a row of sort " + sort + ", no HOURS", y.judge(0, 0), CAST);
            y.tape(0, sort, 0);
            s.due("an empty row of sort " + sort, y.judge(0, 0), CAST);
        }
        x.tape(5, 0, 1);
        x.item(5, 0, 4);
        s.due("a row of bytes", x.judge(5, 0), ABSENT);
        x.tape(5, -1, 0);
        s.due("nothing any more", x.judge(5, 0), 100);
    }

    private void image() {
        s.says("Promise 32", "THE IMAGE is taken: how many HOURS there are.");
        BookedEmpty x = new BookedEmpty();
        for (int h = 0; h <= 6; h++) {
            s.due("image() of " + h, x.image(), h);
            x.hour(HOUR, 0, 0, 1, 1);
        }
        s.says("Promise 33", "All is as THE IMAGE: how many HOURS.");
        for (int h = 0; h <= 6; h++) {
            x = new BookedEmpty();
            for (int n = 0; n < h; n++) {
                x.hour(HOUR, 0, 0, 1, 1);
            }
            x.image();
            x.hour(HOUR, 0, 0, 1, 1);
            s.due("undo() to " + h, x.undo(), h);
            s.due("count(0)", x.count(0), h);
        }
        s.says("Promise 33", "STATE: there is none.");
        x = new BookedEmpty();
        s.due("undo()", x.undo(), STATE);
        x.hour(HOUR, 0, 0, 1, 1);
        s.due("undo()", x.undo(), STATE);
        s.due("count(0) stays", x.count(0), 1);
        s.due("image()", x.image(), 1);
        x.hour(HOUR, 0, 0, 1, 1);
        s.due("undo()", x.undo(), 1);
        x.hour(HOUR, 0, 0, 1, 1);
        x.hour(HOUR, 0, 0, 1, 1);
        s.due("undo() again: THE IMAGE stays", x.undo(), 1);
        for (int h = 1; h < 6; h++) {
            x.hour(HOUR, 0, 0, 1, 1);
        }
        s.due("image() of all", x.image(), 6);
        s.due("undo()", x.undo(), 6);
        s.due("hour(), the seventh", x.hour(HOUR, 0, 0, 1, 1), FULL);
    }

    /** HOURS 0 .. 5 of KINDS 1 .. 6. */
    private static BookedEmpty kinds() {
        BookedEmpty x = new BookedEmpty();
        for (int kind = 1; kind <= TOLD; kind++) {
            x.hour(kind, 9, 0, 1, 1);
        }
        return x;
    }

    private void act() {
        s.says("Promise 34", "An ACT (0 knocks, 1 sits, 2 tells) of an HOUR with x.");
        BookedEmpty x = kinds();
        s.due("act(0, 0, 7)", x.act(0, 0, 7), 7);
        s.due("act(0, 1, 7)", x.act(0, 1, 7), (7 - 9) ^ 6);
        s.due("act(0, 2, 7)", x.act(0, 2, 7), ((7 - 9) ^ 6) * 2);
        s.due("act(5, 0, 7), the last HOUR", x.act(5, 0, 7), 12 ^ 9);
        s.says("Promise 34", "0, and no TRACE then: no such HOUR, act.");
        for (int hour : PromiseEdges.not(0, 5)) {
            x.act(5, 2, 7);
            s.due("act(" + hour + ", 0, 7)", x.act(hour, 0, 7), 0);
            s.due("trace(0)", x.trace(0), NONE);
            s.due("count(7)", x.count(7), 0);
        }
        for (int act : PromiseEdges.not(0, 2)) {
            x.act(5, 2, 7);
            s.due("act(0, " + act + ", 7)", x.act(0, act, 7), 0);
            s.due("trace(0)", x.trace(0), NONE);
            s.due("count(7)", x.count(7), 0);
        }
        s.due("no HOURS", new BookedEmpty().act(0, 0, 7), 0);
        s.due("act(0, 2, 7)", x.act(0, 2, 7), ((7 - 9) ^ 6) * 2);
        s.due("trace(0)", x.trace(0), 12);
    }

    private void trace() {
        s.says("Promise 35", "THE TRACE's i-th body.");
        BookedEmpty x = kinds();
        x.act(5, 2, 7);
        s.due("trace(0)", x.trace(0), 40);
        s.due("trace(1)", x.trace(1), 12);
        s.due("trace(11)", x.trace(11), 10);
        s.says("Promise 35", "NONE.");
        s.due("no act() yet", kinds().trace(0), NONE);
        for (int i : PromiseEdges.not(0, 11)) {
            s.due("trace(" + i + ")", x.trace(i), NONE);
        }
        for (int i = 12; i <= 21; i++) {
            s.due("trace(" + i + ")", x.trace(i), NONE);
        }
    }

    private void taken() {
        s.says("Promise 36", "An HOUR taken for one of KIND k (0 .. 6), or one under that: its KIND.");
        BookedEmpty x = kinds();
        for (int hour = 0; hour < 6; hour++) {
            s.due("as it is", x.taken(hour, hour + 1), hour + 1);
            s.due("as an HOUR", x.taken(hour, 0), hour + 1);
        }
        s.due("OVER as BUSY", x.taken(OVER - 1, 1), OVER);
        s.due("STANDING as GHOSTLY", x.taken(STANDING - 1, 2), STANDING);
        s.due("TOLD as LATE", x.taken(TOLD - 1, 3), TOLD);
        s.says("Promise 36", "BAD: k;");
        for (int k : PromiseEdges.not(0, 6)) {
            s.due("taken(0, " + k + ")", x.taken(0, k), BAD);
        }
        s.says("Promise 36", "NOTHING: no such HOUR;");
        for (int hour : PromiseEdges.not(0, 5)) {
            s.due("taken(" + hour + ", 0)", x.taken(hour, 0), NOTHING);
        }
        s.due("no HOURS", new BookedEmpty().taken(0, 0), NOTHING);
        s.says("Promise 36", "CAST.");
        s.due("BUSY as OVER", x.taken(0, OVER), CAST);
        s.due("GHOSTLY as STANDING", x.taken(GHOSTLY - 1, STANDING), CAST);
        s.due("LATE as TOLD", x.taken(LATE - 1, TOLD), CAST);
        s.due("OVER as GHOSTLY", x.taken(OVER - 1, GHOSTLY), CAST);
        s.due("TOLD as BUSY", x.taken(TOLD - 1, 1), CAST);
        x = new BookedEmpty();
        x.hour(HOUR, 0, 0, 1, 1);
        for (int k = 1; k <= TOLD; k++) {
            s.due("HOUR as " + k, x.taken(0, k), CAST);
        }
    }

    private void count() {
        s.says("Promise 37", "How many: 0 HOURS, 1 ROOMS, 2 OFFICES, 3 SEEN, 4 of the PLAN, 5 of the BOOK, 6 bytes "
            + "of THE TEXT,");
        BookedEmpty x = Check.rooms(20, 20, 20, 20);
        for (int n = 1; n <= 6; n++) {
            x.hour(HOUR, 0, 0, 1, 1);
            Check.office(x, "day 1");
            x.see(0, 0, false, 0);
            for (int what : new int[] {0, 2, 3}) {
                s.due("count(" + what + ")", x.count(what), n);
            }
        }
        s.due("count(1)", x.count(1), 4);
        for (int n = 1; n <= 8; n++) {
            x.plan(0, 0);
            s.due("count(4)", x.count(4), n);
            x.book(0, 4);
            s.due("count(5)", x.count(5), n);
        }
        for (int n = 1; n <= 100; n++) {
            x.feed('x');
            s.due("count(6)", x.count(6), n);
        }
        s.says("Promise 37", "7 bodies that ran in the latest act() (all, kept or not).");
        x = kinds();
        s.due("none yet", x.count(7), 0);
        x.act(5, 2, 7);
        s.due("the most there are", x.count(7), 12);
        x.act(2, 0, 7);
        s.due("of the latest", x.count(7), 1);
        s.says("Promise 37", "BAD.");
        for (int what : PromiseEdges.not(0, 7)) {
            s.due("count(" + what + ")", x.count(what), BAD);
        }
    }

    private void tape() {
        s.says("Promise 38", "A TAPE becomes a row of n (0 .. 60) of a sort, all 0, or holds nothing (sort -1: n "
            + "does not matter): 1.");
        BookedEmpty x = new BookedEmpty();
        for (int sort = 0; sort <= 4; sort++) {
            s.due("tape(3, " + sort + ", 60)", x.tape(3, sort, 60), 1);
            s.due("read(3, 59)", x.read(3, 59), 0);
            s.due("read(3, 60)", x.read(3, 60), NO);
            x.item(3, 0, 1);
            x.item(3, 59, 1);
            s.due("anew", x.tape(3, sort, 60), 1);
            s.due("all 0: read(3, 0)", x.read(3, 0), 0);
            s.due("all 0: read(3, 59)", x.read(3, 59), 0);
            s.due("tape(3, " + sort + ", 0)", x.tape(3, sort, 0), 1);
            s.due("no place: item(3, 0, 1)", x.item(3, 0, 1), PLACE);
            s.due("no place: read(3, 0)", x.read(3, 0), NO);
        }
        for (int n : new int[] {0, -1, 61, Integer.MIN_VALUE, Integer.MAX_VALUE}) {
            x.tape(3, 3, 2);
            s.due("tape(3, -1, " + n + ")", x.tape(3, -1, n), 1);
            s.due("nothing: item(3, 0, 1)", x.item(3, 0, 1), NOTHING);
            s.due("nothing: read(3, 0)", x.read(3, 0), NO);
        }
        s.says("Promise 38", "NONE: tape;");
        for (int tape : PromiseEdges.not(0, 5)) {
            s.due("tape(" + tape + ", 0, 1)", x.tape(tape, 0, 1), NONE);
            s.due("tape(" + tape + ", -1, 0)", x.tape(tape, -1, 0), NONE);
        }
        s.says("Promise 38", "BAD: sort, n above 60;");
        for (int sort : PromiseEdges.not(-1, 4)) {
            s.due("tape(3, " + sort + ", 1)", x.tape(3, sort, 1), BAD);
        }
        for (int n : new int[] {61, 62, 127, 128, 256, 65536, Integer.MAX_VALUE}) {
            s.due("tape(3, 0, " + n + ")", x.tape(3, 0, n), BAD);
        }
        s.says("Promise 38", "SIZE.");
        for (int n : new int[] {-1, -2, -60, -256, Integer.MIN_VALUE}) {
            s.due("tape(3, 0, " + n + ")", x.tape(3, 0, n), SIZE);
        }
        s.due("it still holds nothing", x.item(3, 0, 1), NOTHING);
    }

    private void item() {
        BookedEmpty x = new BookedEmpty();
        x.tape(5, 3, 60);
        s.says("Promise 39", "NONE;");
        for (int tape : PromiseEdges.not(0, 5)) {
            s.due("item(" + tape + ", 0, 1)", x.item(tape, 0, 1), NONE);
        }
        s.says("Promise 39", "NOTHING;");
        s.due("item(0, 0, 1)", x.item(0, 0, 1), NOTHING);
        s.due("item(0, -1, 1)", x.item(0, -1, 1), NOTHING);
        x.tape(1, 0, 1);
        x.tape(1, -1, 1);
        s.due("it held something: item(1, 0, 1)", x.item(1, 0, 1), NOTHING);
        s.says("Promise 39", "PLACE.");
        for (int i : PromiseEdges.not(0, 59)) {
            s.due("item(5, " + i + ", 1)", x.item(5, i, 1), PLACE);
        }
        s.due("the last", x.item(5, 59, 7), 1);
        s.due("read(5, 59)", x.read(5, 59), 7);
        s.due("the first", x.item(5, 0, 8), 1);
        s.due("read(5, 0)", x.read(5, 0), 8);
        s.due("between", x.read(5, 1), 0);
    }

    private void itemBits() {
        s.says("Promise 39", "Item i of a TAPE becomes v (its lowest bits, as many as an item has; booleans: whether"
            + " v is not 0): 1.");
        int[] bits = {8, 16, 32, 64};
        BookedEmpty x = new BookedEmpty();
        for (int sort = 0; sort < 4; sort++) {
            x.tape(sort, sort, 1);
            long least = Long.MIN_VALUE >> 64 - bits[sort];
            long most = -1 - least;
            s.due("item(.., the greatest)", x.item(sort, 0, most), 1);
            s.due("sort " + sort + ": the greatest", x.read(sort, 0), most);
            s.due("item(.., one more)", x.item(sort, 0, most + 1), 1);
            s.due("sort " + sort + ": one more", x.read(sort, 0), least);
            x.item(sort, 0, least - 1);
            s.due("sort " + sort + ": one less than the least", x.read(sort, 0), most);
            x.item(sort, 0, -1);
            s.due("sort " + sort + ": -1", x.read(sort, 0), -1);
        }
        x.tape(4, 4, 1);
        for (long v : new long[] {1, 2, -1, 256, 65536, 1L << 32, 1L << 63, Long.MAX_VALUE}) {
            x.item(4, 0, 0);
            s.due("a boolean, 0", x.read(4, 0), 0);
            x.item(4, 0, v);
            s.due("a boolean, " + v, x.read(4, 0), 1);
        }
    }

    private void read() {
        s.says("Promise 40", "Item i of a TAPE.");
        BookedEmpty x = new BookedEmpty();
        x.tape(5, 3, 60);
        for (int i = 0; i < 60; i++) {
            x.item(5, i, i - 30);
        }
        for (int i = 0; i < 60; i++) {
            s.due("read(5, " + i + ")", x.read(5, i), i - 30);
        }
        x.tape(5, -1, 0);
        s.says("Promise 40", "NO: no such TAPE, nothing there, no such place.");
        for (int tape : PromiseEdges.not(0, 5)) {
            s.due("read(" + tape + ", 0)", x.read(tape, 0), NO);
        }
        for (int tape = 0; tape <= 5; tape++) {
            s.due("nothing there: read(" + tape + ", 0)", x.read(tape, 0), NO);
            x.tape(tape, 2, 3);
            s.due("read(" + tape + ", 2)", x.read(tape, 2), 0);
            for (int i : PromiseEdges.not(0, 2)) {
                s.due("no such place: read(" + tape + ", " + i + ")", x.read(tape, i), NO);
            }
        }
    }

    /** TAPE 0: ints 1 .. 6; TAPE 1: six 0. */
    private static BookedEmpty counted() {
        BookedEmpty x = new BookedEmpty();
        x.tape(0, 2, 6);
        x.tape(1, 2, 6);
        for (int i = 0; i < 6; i++) {
            x.item(0, i, i + 1);
        }
        return x;
    }

    private void holds(String call, BookedEmpty x, int tape, int... want) {
        for (int i = 0; i < want.length; i++) {
            s.due(call + ", then read(" + tape + ", " + i + ")", x.read(tape, i), want[i]);
        }
    }

    private void shift() {
        s.says("Promise 41", "n items of a TAPE from i on come to another one (or the same) from j on, as they all "
            + "were before: n.");
        BookedEmpty x = counted();
        s.due("forth, over themselves", x.shift(0, 0, 0, 1, 5), 5);
        holds("forth", x, 0, 1, 1, 2, 3, 4, 5);
        x = counted();
        s.due("forth by two", x.shift(0, 0, 0, 2, 4), 4);
        holds("forth by two", x, 0, 1, 2, 1, 2, 3, 4);
        x = counted();
        s.due("back, over themselves", x.shift(0, 1, 0, 0, 5), 5);
        holds("back", x, 0, 2, 3, 4, 5, 6, 6);
        x = counted();
        s.due("onto themselves", x.shift(0, 0, 0, 0, 6), 6);
        holds("onto themselves", x, 0, 1, 2, 3, 4, 5, 6);
        s.due("all to another", x.shift(0, 0, 1, 0, 6), 6);
        holds("all", x, 1, 1, 2, 3, 4, 5, 6);
        x = counted();
        s.due("the last to the first", x.shift(0, 5, 1, 0, 1), 1);
        s.due("the first to the last", x.shift(0, 0, 1, 5, 1), 1);
        holds("first and last", x, 1, 6, 0, 0, 0, 0, 1);
        holds("first and last", x, 0, 1, 2, 3, 4, 5, 6);
        s.due("none, from both ends on", x.shift(0, 6, 1, 6, 0), 0);
        s.due("none, in itself", x.shift(0, 0, 0, 6, 0), 0);
        x.tape(2, 2, 0);
        s.due("none, of an empty one", x.shift(2, 0, 2, 0, 0), 0);
        holds("none", x, 0, 1, 2, 3, 4, 5, 6);
    }

    private void refused(int due, int[]... calls) {
        BookedEmpty x = counted();
        x.tape(2, 3, 6);
        x.tape(3, 0, 6);
        x.tape(4, 2, 3);
        for (int[] c : calls) {
            s.due("shift(" + c[0] + ", " + c[1] + ", " + c[2] + ", " + c[3] + ", " + c[4] + ")",
                x.shift(c[0], c[1], c[2], c[3], c[4]), due);
        }
        holds("refused", x, 0, 1, 2, 3, 4, 5, 6);
        holds("refused", x, 1, 0, 0, 0, 0, 0, 0);
        holds("refused", x, 4, 0, 0, 0);
    }

    private void shiftRefused() {
        int most = Integer.MAX_VALUE;
        int least = Integer.MIN_VALUE;
        s.says("Promise 41", "NONE: tapes;");
        refused(NONE, new int[] {-1, 0, 1, 0, 1}, new int[] {6, 0, 1, 0, 1}, new int[] {0, 0, -1, 0, 1},
            new int[] {0, 0, 6, 0, 1}, new int[] {least, 0, most, 0, 1}, new int[] {6, 0, 6, 0, 0});
        s.says("Promise 41", "NOTHING;");
        refused(NOTHING, new int[] {5, 0, 0, 0, 1}, new int[] {0, 0, 5, 0, 1}, new int[] {5, 0, 5, 0, 0});
        s.says("Promise 41", "CAST: of unlike sorts;");
        refused(CAST, new int[] {0, 0, 2, 0, 1}, new int[] {2, 0, 0, 0, 1}, new int[] {3, 0, 0, 0, 0},
            new int[] {2, 0, 3, 0, 1});
        s.says("Promise 41", "PLACE: n, i or j is below 0, or beyond either's end.");
        refused(PLACE, new int[] {0, 0, 1, 0, -1}, new int[] {0, -1, 1, 0, 1}, new int[] {0, 0, 1, -1, 1},
            new int[] {0, 6, 1, 0, -1}, new int[] {0, 0, 1, 6, -1}, new int[] {0, -1, 1, 0, 0}, new int[] {0, 0, 1, -1, 0},
            new int[] {0, 0, 1, 0, 7}, new int[] {0, 1, 1, 0, 6}, new int[] {0, 0, 1, 1, 6}, new int[] {0, 6, 1, 0, 1},
            new int[] {0, 0, 1, 6, 1}, new int[] {0, 7, 1, 0, 0}, new int[] {0, 0, 1, 7, 0}, new int[] {0, 0, 4, 0, 4},
            new int[] {4, 0, 0, 0, 4}, new int[] {4, 4, 0, 0, 0}, new int[] {0, 0, 4, 4, 0});
        refused(PLACE, new int[] {0, most, 1, 0, 1}, new int[] {0, 0, 1, most, 1}, new int[] {0, 1, 1, 0, most},
            new int[] {0, 0, 1, 1, most}, new int[] {0, most, 1, most, most}, new int[] {0, least, 1, 0, least},
            new int[] {0, least, 1, least, least}, new int[] {0, 0, 1, 0, least}, new int[] {0, least, 1, 0, most},
            new int[] {0, 0, 0, 1, 6}, new int[] {0, 1, 0, 0, 6});
    }

    private void orderOfHours() {
        s.says("Terms 3", "the first that a call's words name.");
        BookedEmpty x = Check.rooms(20, 20, 20, 20);
        s.due("room(): BAD ahead of FULL", x.room(0), BAD);
        for (int h = 0; h < 6; h++) {
            s.due("hour(): NONE ahead of BAD", x.hour(7, 10, 40, 13, 21), NONE);
            x.hour(HOUR, 0, 30, 1, 20);
        }
        s.due("hour(): NONE ahead of FULL", x.hour(7, 0, 0, 1, 1), NONE);
        s.due("hour(): NONE ahead of BAD and FULL", x.hour(-1, 10, 0, 1, 1), NONE);
        s.due("hour(): BAD ahead of FULL", x.hour(0, 10, 0, 1, 1), BAD);
        s.due("row(): NONE (hour) ahead of BAD", x.row(6, 0, 10), NONE);
        s.due("row(): NONE (part) ahead of BAD and STATE", x.row(0, 4, 10), NONE);
        s.due("row(): NONE (part) ahead of STATE", x.row(0, 4, 1), NONE);
        s.due("row(): BAD ahead of STATE", x.row(0, 0, 10), BAD);
        x.give(0, 0);
        s.due("give(): NONE, though it would CLASH", x.give(6, 0), NONE);
        for (int n = 0; n < 100; n++) {
            x.feed('x');
        }
        s.due("feed(): BAD ahead of FULL", x.feed(128), BAD);
        BookedEmpty y = new BookedEmpty();
        for (int n = 0; n < 6; n++) {
            Check.office(y, "day 1");
        }
        y.feed('x');
        s.due("office(): FULL ahead of a FAULT", y.office(), FULL);
        y = new BookedEmpty();
        for (int n = 0; n < 166; n++) {
            y.pass(60);
        }
        s.due("pass(): BAD ahead of STATE", y.pass(61), BAD);
        s.due("pass(): BAD ahead of STATE", y.pass(Integer.MAX_VALUE), BAD);
    }

    private void orderOfRest() {
        s.says("Terms 3", "the first that a call's words name.");
        BookedEmpty x = Check.rooms(20);
        s.due("on(): NONE ahead of BAD", x.on(61, 10), NONE);
        s.due("see(): NONE (room) ahead of BAD", x.see(1, 0, true, 21), NONE);
        s.due("see(): NONE (quarter) ahead of BAD", x.see(0, 40, true, 21), NONE);
        for (int n = 0; n < 6; n++) {
            x.see(0, 0, false, 0);
        }
        s.due("see(): NONE (room) ahead of FULL", x.see(1, 0, true, 0), NONE);
        s.due("see(): NONE (quarter) ahead of FULL", x.see(0, 40, true, 0), NONE);
        s.due("see(): BAD ahead of FULL", x.see(0, 0, true, 21), BAD);
        for (int n = 0; n < 8; n++) {
            x.plan(0, 0);
        }
        s.due("plan(): NONE (what) ahead of FULL", x.plan(3, 0), NONE);
        s.due("plan(): NONE (hour) ahead of FULL", x.plan(1, 0), NONE);
        s.due("plan(): NONE (room) ahead of FULL", x.plan(2, 1), NONE);
        x.hour(HOUR, 0, 0, 1, 1);
        for (int n = 0; n < 8; n++) {
            x.book(0, 4);
        }
        s.due("book(): NONE (hour) ahead of FULL", x.book(1, 0), NONE);
        s.due("book(): NONE (room) ahead of FULL", x.book(0, 1), NONE);
        s.due("see(): none, when it is FULL", x.see(-1, 0, true, 0), 0);
        s.due("plan(): empty, when it is FULL", x.plan(-1, 0), 0);
        s.due("book(): empty, when it is FULL", x.book(-1, 0), 0);
    }

    private void orderOfTapes() {
        s.says("Terms 3", "the first that a call's words name.");
        BookedEmpty x = new BookedEmpty();
        x.tape(1, 2, 3);
        x.tape(2, 0, 3);
        s.due("taken(): BAD ahead of NOTHING", x.taken(0, 7), BAD);
        s.due("tape(): NONE ahead of BAD (sort)", x.tape(6, 5, 1), NONE);
        s.due("tape(): NONE ahead of BAD (n)", x.tape(6, 0, 61), NONE);
        s.due("tape(): NONE ahead of SIZE", x.tape(6, 0, -1), NONE);
        s.due("tape(): BAD (sort) ahead of SIZE", x.tape(0, 5, -1), BAD);
        s.due("tape(): BAD (sort and n)", x.tape(0, 5, 61), BAD);
        s.due("item(): NONE ahead of all", x.item(6, -1, 1), NONE);
        s.due("item(): NOTHING ahead of PLACE", x.item(0, -1, 1), NOTHING);
        s.due("shift(): NONE ahead of NOTHING", x.shift(6, 0, 0, 0, 1), NONE);
        s.due("shift(): NONE (other) ahead of NOTHING", x.shift(0, 0, 6, 0, 1), NONE);
        s.due("shift(): NONE ahead of PLACE", x.shift(6, -1, 1, 0, 1), NONE);
        s.due("shift(): NOTHING ahead of PLACE", x.shift(0, -1, 1, 0, 1), NOTHING);
        s.due("shift(): NOTHING (other) ahead of PLACE", x.shift(1, -1, 0, 0, 1), NOTHING);
        s.due("shift(): CAST ahead of PLACE", x.shift(1, -1, 2, 0, 1), CAST);
        s.due("judge(): CAST ahead of none to look at", x.judge(1, 0), CAST);
        s.due("judge(): none to look at ahead of the place", x.judge(2, -1), ABSENT);
        s.due("judge(): none to look at ahead of nothing held", x.judge(0, -1), ABSENT);
    }

    /** The 512th answers as the first does; behind it nothing is asked but that no call throws. */
    private void calls() {
        s.says("What it is", "An object is used for at most 512 calls after it has been made; what later calls "
            + "answer is free.");
        BookedEmpty x = new BookedEmpty();
        s.due("room(20)", x.room(20), 0);
        s.due("hour()", x.hour(GHOSTLY, 0, 10, 4, 1), 0);
        s.due("give(0, 0)", x.give(0, 0), ABSENT);
        for (int n = 4; n < 512; n += 2) {
            s.due("call " + n, x.waste(30), 60);
            s.due("call " + (n + 1), x.act(0, 2, n), n * 6);
        }
        s.due("call 512", x.waste(30), 60);
        for (int n = 513; n < 2000; n++) {
            x.waste(30);
            x.room(1);
            x.feed('x');
            x.act(0, 2, n);
        }
    }
}
