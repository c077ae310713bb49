/** Promises 1 to 16: each sentence that names a boundary. */
final class PromiseEdges {
    private static final int NONE = -1, BAD = -2, STATE = -3, FULL = -4, ABSENT = -5, UNKNOWN = -1001;
    private static final int HOUR = 0, BUSY = 1, GHOSTLY = 2, LATE = 3, OVER = 4, STANDING = 5, TOLD = 6;

    private final Sentences s;

    private PromiseEdges(Sentences s) {
        this.s = s;
    }

    static void all(Sentences s) {
        PromiseEdges e = new PromiseEdges(s);
        e.anew();
        e.room();
        e.hour();
        e.of();
        e.ofUnknown();
        e.at();
        e.fault();
        e.row();
        e.give();
        e.giveRefused();
        e.insideAndHeld();
        e.feed();
        e.office();
        e.officeRefused();
        e.told();
        e.pass();
        e.waste();
        e.on();
    }

    /** Numbers that are not between these two. */
    static int[] not(int least, int greatest) {
        return new int[] {least - 1, greatest + 1, least - 2, greatest + 2, least - 32, greatest + 32, least - 64,
            greatest + 64, least - 256, greatest + 256, Integer.MIN_VALUE, Integer.MIN_VALUE + 1, Integer.MAX_VALUE,
            Integer.MAX_VALUE - 1};
    }

    /** One ROOM of 20 SEATS, and one HOUR of it with 1 of PEOPLE. */
    private static BookedEmpty one(int kind, int v, int from, int quarters) {
        BookedEmpty x = Check.rooms(20);
        x.hour(kind, v, from, quarters, 1);
        x.give(0, 0);
        return x;
    }

    private void anew() {
        s.says("Promise 1", "No ROOMS, no HOURS, no OFFICE.");
        BookedEmpty x = new BookedEmpty();
        for (int what = 0; what <= 7; what++) {
            s.due("count(" + what + ")", x.count(what), 0);
        }
        s.due("told(1): no OFFICE", x.told(1), 2);
        s.due("told(2): no OFFICE", x.told(2), 40);
        s.due("undo(): no IMAGE", x.undo(), STATE);
        x.room(5);
        s.due("another is new all the same", new BookedEmpty().count(1), 0);
    }

    private void room() {
        s.says("Promise 2", "A ROOM: its number.");
        BookedEmpty four = new BookedEmpty();
        for (int r = 0; r < 4; r++) {
            s.due("room(" + (r + 5) + ")", four.room(r + 5), r);
            s.due("at(" + r + ", 0)", four.at(r, 0), r + 5);
        }
        s.says("Promise 2", "BAD: seats");
        BookedEmpty x = new BookedEmpty();
        for (int seats : not(1, 20)) {
            s.due("room(" + seats + ")", x.room(seats), BAD);
        }
        s.due("count(1)", x.count(1), 0);

        s.says("Promise 2", "FULL: 4");
        for (int r = 0; r < 4; r++) {
            s.due("room(1), the " + r, x.room(1), r);
        }
        s.due("room(1), the fifth", x.room(1), FULL);
        s.due("count(1)", x.count(1), 4);
    }

    private void hour() {
        s.says("Promise 3", "An HOUR: its number.");
        BookedEmpty six = new BookedEmpty();
        for (int h = 0; h < 6; h++) {
            s.due("hour(" + h + ", " + (h + 4) + ", ..)", six.hour(h, h + 4, h + 34, h + 7, h + 15), h);
            int[] numbers = {h, h + 4, h + 34, h + 7, h + 15};
            for (int what = 0; what < 5; what++) {
                s.due("of(" + h + ", " + what + ")", six.of(h, what), numbers[what]);
            }
        }
        s.says("Promise 3", "NONE: kind;");
        BookedEmpty x = new BookedEmpty();
        for (int kind : not(0, 6)) {
            s.due("hour(" + kind + ", ..)", x.hour(kind, 0, 0, 1, 1), NONE);
        }
        s.says("Promise 3", "BAD: v, from, quarters (LONG), people;");
        for (int v : not(0, 9)) {
            s.due("v " + v, x.hour(0, v, 0, 1, 1), BAD);
        }
        for (int from : not(0, 39)) {
            s.due("from " + from, x.hour(0, 0, from, 1, 1), BAD);
        }
        for (int quarters : not(1, 12)) {
            s.due("quarters " + quarters, x.hour(0, 0, 0, quarters, 1), BAD);
        }
        for (int people : not(1, 20)) {
            s.due("people " + people, x.hour(0, 0, 0, 1, people), BAD);
        }
        s.due("count(0)", x.count(0), 0);
        s.says("Promise 3", "FULL: 6.");
        for (int h = 0; h < 6; h++) {
            s.due("hour() the " + h, x.hour(h, 9, 39, 12, 20), h);
        }
        s.due("hour(), the seventh", x.hour(0, 0, 0, 1, 1), FULL);
        s.due("count(0)", x.count(0), 6);
    }

    private void of() {
        s.says("Promise 4", "Of an HOUR what 0 KIND, 1 v, 2 FROM, 3 LONG, 4 PEOPLE, 5 its ROOM (-5: none), 6 COMES "
            + "(-5), 7 GOES, 8 how many quarters are HELD, 10 and r whether it FITS ROOM r, 20 and r WORTH in ROOM "
            + "r.");
        BookedEmpty x = Check.rooms(6, 7, 8, 9);
        x.hour(GHOSTLY, 5, 7, 4, 8);
        x.hour(OVER, 9, 39, 12, 9);
        int[] ghost = {2, 5, 7, 4, 8, ABSENT, ABSENT, 11, 2};
        int[] over = {4, 9, 39, 12, 9, ABSENT, 39, 55, 1};
        for (int what = 0; what <= 8; what++) {
            s.due("of(0, " + what + ")", x.of(0, what), ghost[what]);
            s.due("of(1, " + what + ")", x.of(1, what), over[what]);
        }
        Check.office(x, "like 1 r=1;like 2 r=2;like 3 r=3;like 50 h=1");
        for (int r = 0; r < 4; r++) {
            s.due("of(0, " + (10 + r) + ")", x.of(0, 10 + r), r < 2 ? 0 : 1);
            s.due("of(1, " + (10 + r) + ")", x.of(1, 10 + r), r < 3 ? 0 : 1);
            s.due("of(0, " + (20 + r) + ")", x.of(0, 20 + r), 10 + r);
            s.due("of(1, " + (20 + r) + ")", x.of(1, 20 + r), 60 + r);
        }
        x.give(0, 3);
        s.due("of(0, 5) in the last ROOM", x.of(0, 5), 3);
    }

    private void ofUnknown() {
        s.says("Promise 4", "-1001: NONE.");
        BookedEmpty x = Check.rooms(9, 9);
        s.due("of(0, 0), no HOURS", x.of(0, 0), UNKNOWN);
        x.hour(HOUR, 0, 0, 1, 1);
        for (int hour : not(0, 0)) {
            s.due("of(" + hour + ", 0)", x.of(hour, 0), UNKNOWN);
        }
        int[] whats = {9, 12, 13, 14, 19, 22, 23, 24, 30};
        for (int what : whats) {
            s.due("of(0, " + what + ")", x.of(0, what), UNKNOWN);
        }
        for (int what : not(0, 23)) {
            s.due("of(0, " + what + ")", x.of(0, what), UNKNOWN);
        }
        x = new BookedEmpty();
        x.hour(HOUR, 0, 0, 1, 1);
        s.due("of(0, 10), no ROOMS", x.of(0, 10), UNKNOWN);
        s.due("of(0, 20), no ROOMS", x.of(0, 20), UNKNOWN);
    }

    private void at() {
        s.says("Promise 5", "Of a ROOM what 0 SEATS, 1 whether it has a FAULT, 2 how many quarters it is EMPTY "
            + "today, 3 FREE.");
        BookedEmpty x = one(STANDING, 0, 10, 6);
        x.fault(0, true);
        int[][] want = {{20, 1, 0, 34}, {20, 1, 2, 38}, {20, 1, 0, 34}};
        for (int day = 0; day < 3; day++) {
            for (int what = 0; what <= 3; what++) {
                s.due("DAY " + day + ": at(0, " + what + ")", x.at(0, what), want[day][what]);
            }
            x.pass(1);
        }
        s.says("Promise 5", "NONE.");
        s.due("at(0, 0), no ROOMS", new BookedEmpty().at(0, 0), NONE);
        for (int room : not(0, 0)) {
            s.due("at(" + room + ", 0)", x.at(room, 0), NONE);
        }
        for (int what : not(0, 3)) {
            s.due("at(0, " + what + ")", x.at(0, what), NONE);
        }
    }

    private void fault() {
        s.says("Promise 6", "A ROOM has a FAULT, or none: whether it had.");
        BookedEmpty x = Check.rooms(20, 20, 20, 20);
        boolean[] is = {false, true, true, false, false, true};
        int had = 0;
        for (boolean b : is) {
            s.due("fault(3, " + b + ")", x.fault(3, b), had);
            had = b ? 1 : 0;
            s.due("at(3, 1)", x.at(3, 1), had);
            s.due("at(2, 1), another's", x.at(2, 1), 0);
        }
        s.says("Promise 6", "NONE.");
        for (int room : not(0, 3)) {
            s.due("fault(" + room + ", true)", x.fault(room, true), NONE);
        }
        s.due("fault(0, true), no ROOMS", new BookedEmpty().fault(0, true), NONE);
    }

    private void row() {
        s.says("Promise 7", "The ROW of a TOLD one becomes n (0 .. 9) for DAYS modulo 4 being part: what it was.");
        BookedEmpty x = one(TOLD, 0, 10, 12);
        for (int part = 0; part < 4; part++) {
            s.due("row(0, " + part + ", 9)", x.row(0, part, 9), 0);
            s.due("row(0, " + part + ", 0)", x.row(0, part, 0), 9);
            s.due("row(0, " + part + ", ..)", x.row(0, part, part + 1), 0);
        }
        for (int day = 0; day < 9; day++) {
            s.due("DAY " + day, x.of(0, 6), 11 + day % 4);
            x.pass(1);
        }
        x.hour(HOUR, 0, 0, 1, 1);
        s.says("Promise 7", "NONE: hour, part;");
        for (int hour : not(0, 1)) {
            s.due("row(" + hour + ", 0, 1)", x.row(hour, 0, 1), NONE);
        }
        for (int part : not(0, 3)) {
            s.due("row(0, " + part + ", 1)", x.row(0, part, 1), NONE);
        }
        s.says("Promise 7", "BAD;");
        for (int n : not(0, 9)) {
            s.due("row(0, 0, " + n + ")", x.row(0, 0, n), BAD);
        }
        s.due("it stays", x.row(0, 0, 1), 1);
        s.says("Promise 7", "STATE: another KIND.");
        for (int kind = HOUR; kind < TOLD; kind++) {
            s.due("KIND " + kind, one(kind, 0, 0, 1).row(0, 0, 0), STATE);
        }
    }

    private void give() {
        s.says("Promise 8", "An HOUR has a ROOM from now on (-1: none): what it had (-5).");
        BookedEmpty x = Check.rooms(5, 5, 5, 5);
        x.hour(HOUR, 0, 10, 4, 5);
        s.due("none to none", x.give(0, -1), ABSENT);
        s.due("none to the first", x.give(0, 0), ABSENT);
        s.due("to the one it has", x.give(0, 0), 0);
        s.due("to the last", x.give(0, 3), 0);
        s.due("of(0, 5)", x.of(0, 5), 3);
        s.due("inside(3, 10)", x.inside(3, 10), 1);
        s.due("inside(0, 10)", x.inside(0, 10), 0);
        s.due("to none", x.give(0, -1), 3);
        s.due("of(0, 5)", x.of(0, 5), ABSENT);
        s.due("to none again", x.give(0, -1), ABSENT);
        s.says("Promise 8", "NONE;");
        for (int hour : not(0, 0)) {
            s.due("give(" + hour + ", 0)", x.give(hour, 0), NONE);
            s.due("give(" + hour + ", -1)", x.give(hour, -1), NONE);
        }
        for (int room : not(-1, 3)) {
            s.due("give(0, " + room + ")", x.give(0, room), NONE);
        }
        s.due("give(0, 0), no ROOMS", noRooms().give(0, 0), NONE);
        s.due("give(0, -1), no ROOMS", noRooms().give(0, -1), ABSENT);
    }

    private static BookedEmpty noRooms() {
        BookedEmpty x = new BookedEmpty();
        x.hour(HOUR, 0, 0, 1, 1);
        return x;
    }

    private void giveRefused() {
        s.says("Promise 8", "STATE: it does not FIT, or CLASHES with another HOUR that has that ROOM.");
        BookedEmpty x = Check.rooms(4, 5, 6);
        x.hour(BUSY, 0, 10, 4, 5);
        s.due("one of SEATS too few", x.give(0, 0), STATE);
        s.due("as many", x.give(0, 1), ABSENT);
        x.fault(1, true);
        s.due("a FAULT, also in the ROOM that it has", x.give(0, 1), STATE);
        s.due("it has it all the same", x.of(0, 5), 1);
        s.due("but it may have none", x.give(0, -1), 1);
        x.fault(1, false);
        x.give(0, 1);
        x.hour(LATE, 0, 13, 1, 5);
        s.due("one quarter in common", x.give(1, 1), STATE);
        s.due("none in that ROOM", x.give(1, 2), ABSENT);
        s.due("now in that one", x.give(0, 2), STATE);
        s.due("what it had stays", x.of(0, 5), 1);
        x.give(0, -1);
        s.due("the other has none any more", x.give(1, 1), 2);
        s.due("it does not CLASH with itself", x.give(1, 1), 1);
        BookedEmpty y = Check.rooms(9);
        for (int h = 0; h < 6; h++) {
            y.hour(HOUR, 0, 10 + h, h == 5 ? 1 : 2, 1);
        }
        for (int h = 0; h < 6; h += 2) {
            s.due("give(" + h + ", 0)", y.give(h, 0), ABSENT);
        }
        s.due("with the one behind", y.give(1, 0), STATE);
        s.due("with the last ahead", y.give(5, 0), STATE);
    }

    private void insideAndHeld() {
        BookedEmpty x = Check.rooms(20, 20, 20, 20);
        Check.office(x, "day 1");
        for (int h = 0; h < 6; h++) {
            x.hour(HOUR, 0, 30 + h, 9, 1);
            x.give(h, 3);
        }
        Check.office(x, "day 40");
        int[] bits = {0, 1, 3, 7, 15, 31, 63, 63, 63, 63, 62};
        s.says("Promise 9", "Those HOURS whose PEOPLE are in a ROOM at a quarter (0 .. 39) today (bits).");
        for (int q = 29; q <= 39; q++) {
            s.due("inside(3, " + q + ")", x.inside(3, q), bits[q - 29]);
        }
        s.due("inside(3, 0)", x.inside(3, 0), 0);
        s.due("inside(2, 35)", x.inside(2, 35), 0);
        BookedEmpty y = one(STANDING, 0, 0, 1);
        s.due("DAY 0: inside(0, 0)", y.inside(0, 0), 1);
        y.pass(1);
        s.due("DAY 1: inside(0, 0)", y.inside(0, 0), 0);
        s.says("Promise 9", "NONE: room, quarter.");
        for (int room : not(0, 3)) {
            s.due("inside(" + room + ", 35)", x.inside(room, 35), NONE);
        }
        for (int quarter : not(0, 39)) {
            s.due("inside(3, " + quarter + ")", x.inside(3, quarter), NONE);
        }
        s.says("Promise 10", "Those HOURS for which a ROOM is HELD at a quarter (0 .. 39) today (bits).");
        for (int q = 29; q <= 39; q++) {
            s.due("held(3, " + q + ")", x.held(3, q), bits[q - 29]);
        }
        s.due("held(3, 0)", x.held(3, 0), 0);
        s.due("held(2, 35)", x.held(2, 35), 0);
        y = one(STANDING, 0, 0, 3);
        s.due("DAY 0: held(0, 2)", y.held(0, 2), 1);
        y.pass(1);
        s.due("DAY 1: held(0, 1)", y.held(0, 1), 1);
        s.due("DAY 1: held(0, 2)", y.held(0, 2), 0);
        s.says("Promise 10", "NONE: room, quarter.");
        for (int room : not(0, 3)) {
            s.due("held(" + room + ", 35)", x.held(room, 35), NONE);
        }
        for (int quarter : not(0, 39)) {
            s.due("held(3, " + quarter + ")", x.held(3, quarter), NONE);
        }
    }

    private void feed() {
        s.says("Promise 11", "A sign (0 .. 127) comes behind THE TEXT's: how many it has.");
        BookedEmpty x = new BookedEmpty();
        s.due("feed(0)", x.feed(0), 1);
        s.due("feed(127)", x.feed(127), 2);
        s.due("count(6)", x.count(6), 2);
        s.says("Promise 11", "BAD;");
        for (int sign : not(0, 127)) {
            s.due("feed(" + sign + ")", x.feed(sign), BAD);
        }
        s.due("count(6)", x.count(6), 2);
        s.says("Promise 11", "FULL.");
        for (int n = 3; n <= 100; n++) {
            s.due("feed() the " + n, x.feed(' '), n);
        }
        s.due("feed() the 101st", x.feed(' '), FULL);
        s.due("count(6)", x.count(6), 100);
    }

    private void office() {
        s.says("Promise 12", "THE TEXT, which is empty then, is an OFFICE, and holds: its number.");
        BookedEmpty x = new BookedEmpty();
        for (int n = 0; n < 6; n++) {
            Check.feed(x, "hold " + n);
            s.due("office() the " + n, x.office(), n);
            s.due("it holds", x.told(1), n);
            s.due("THE TEXT is empty then", x.count(6), 0);
            s.due("count(2)", x.count(2), n + 1);
        }
        x = new BookedEmpty();
        Check.office(x, "hold 9");
        s.due("an empty TEXT then", x.office(), -10);
    }

    private void officeRefused() {
        s.says("Promise 12", "FULL: there are 6 (THE TEXT stays);");
        BookedEmpty x = new BookedEmpty();
        for (int n = 0; n < 6; n++) {
            Check.office(x, "hold " + n);
        }
        s.due("office() of an empty TEXT", x.office(), FULL);
        s.due("office() of a right one", Check.office(x, "hold 9"), FULL);
        s.due("THE TEXT stays", x.feed(';'), 7);
        s.due("office() of one with a FAULT", x.office(), FULL);
        s.due("THE TEXT stays", x.count(6), 7);
        s.due("the sixth holds", x.told(1), 5);
        s.due("count(2)", x.count(2), 6);

        s.says("Promise 12", "-10 less the FAULT of the text (the one that held holds).");
        x = new BookedEmpty();
        s.due("FAULT 0", Check.office(x, ""), -10);
        s.due("FAULT 0", Check.office(x, "x"), -10);
        s.due("FAULT 1", Check.office(x, "h"), -11);
        s.due("FAULT 99", Check.office(x, "like 1 h=1" + "|h=1".repeat(22) + "|x"), -109);
        s.due("FAULT 100", Check.office(x, "like 1 h=10" + "|h=1".repeat(22) + "|"), -110);
        s.due("THE TEXT is empty then", x.count(6), 0);
        s.due("none held: HOLD", x.told(1), 2);
        s.due("count(2)", x.count(2), 0);
        s.due("a right one", Check.office(x, "hold 9;day 9"), 0);
        s.due("FAULT 14", Check.office(x, "hold 5;day 39;"), -24);
        s.due("the one that held: HOLD", x.told(1), 9);
        s.due("the one that held: QUARTERS", x.told(2), 9);
        s.due("count(2)", x.count(2), 1);
        s.due("and the next", Check.office(x, "hold 8"), 1);
    }

    private void told() {
        s.says("Promise 13", "What 0 DAY, 1 HOLD, 2 QUARTERS, 3 how many HOURS have a ROOM, 4 WORTH of these in "
            + "theirs, together.");
        BookedEmpty x = Check.rooms(20, 20);
        s.due("no HOURS: told(3)", x.told(3), 0);
        s.due("no HOURS: told(4)", x.told(4), 0);
        for (int h = 0; h < 6; h++) {
            x.hour(h, 0, h, 1, 1);
            s.due("told(3): none has one", x.told(3), 0);
        }
        Check.office(x, "like 1 h=0;like 7 h=5&r=1;like 50 r=0;hold 11;day 33");
        int worth = 0;
        for (int h = 0; h < 6; h++) {
            x.give(h, 1);
            worth += h == 0 ? 11 : h == 5 ? 17 : 10;
            s.due("told(3)", x.told(3), h + 1);
            s.due("told(4)", x.told(4), worth);
        }
        x.pass(7);
        s.due("told(0)", x.told(0), 7);
        s.due("told(1)", x.told(1), 11);
        s.due("told(2)", x.told(2), 33);
        x.give(0, -1);
        s.due("told(3)", x.told(3), 5);
        s.due("told(4)", x.told(4), worth - 11);
        s.says("Promise 13", "NONE.");
        for (int what : not(0, 4)) {
            s.due("told(" + what + ")", x.told(what), NONE);
        }
    }

    private void pass() {
        s.says("Promise 14", "n DAYS (0 .. 60) go: DAY.");
        BookedEmpty x = new BookedEmpty();
        s.due("pass(0)", x.pass(0), 0);
        s.due("pass(1)", x.pass(1), 1);
        s.due("pass(60)", x.pass(60), 61);
        s.due("pass(59)", x.pass(59), 120);
        s.due("told(0)", x.told(0), 120);
        s.says("Promise 14", "BAD;");
        for (int n : not(0, 60)) {
            s.due("pass(" + n + ")", x.pass(n), BAD);
        }
        s.due("told(0)", x.told(0), 120);
        s.says("Promise 14", "STATE: it would be above 9999.");
        for (int day = 180; day <= 9960; day += 60) {
            s.due("pass(60)", x.pass(60), day);
        }
        s.due("pass(60): 10020", x.pass(60), STATE);
        s.due("pass(40): 10000", x.pass(40), STATE);
        s.due("told(0)", x.told(0), 9960);
        s.due("pass(39): 9999", x.pass(39), 9999);
        s.due("pass(1): 10000", x.pass(1), STATE);
        s.due("pass(0): 9999", x.pass(0), 9999);
    }

    private void waste() {
        s.says("Promise 15", "WASTE.");
        BookedEmpty x = one(GHOSTLY, 0, 10, 6);
        s.due("waste(0)", x.waste(0), 0);
        s.due("waste(30)", x.waste(30), 60);
        s.says("Promise 15", "BAD.");
        for (int n : not(0, 30)) {
            s.due("waste(" + n + ")", x.waste(n), BAD);
        }
    }

    private void on() {
        s.says("Promise 16", "ON: what 10 and h COMES (-5), 20 and r how many quarters ROOM r is EMPTY, 30 and r "
            + "FREE.");
        BookedEmpty x = Check.rooms(20, 20, 20, 20);
        for (int h = 0; h < 6; h++) {
            x.hour(h == 5 ? GHOSTLY : HOUR, 0, 30 + h, 4, 1);
        }
        x.give(0, 0);
        x.give(5, 3);
        for (int h = 0; h < 6; h++) {
            s.due("on(0, " + (10 + h) + ")", x.on(0, 10 + h), h == 5 ? ABSENT : 30 + h);
        }
        int[] empty = {0, 0, 0, 2};
        int[] free = {36, 40, 40, 38};
        for (int r = 0; r < 4; r++) {
            s.due("on(0, " + (20 + r) + ")", x.on(0, 20 + r), empty[r]);
            s.due("on(0, " + (30 + r) + ")", x.on(0, 30 + r), free[r]);
        }
        s.says("Promise 16", "NONE;");
        int[] whats = {0, 1, 9, 16, 19, 24, 29};
        for (int what : whats) {
            s.due("on(0, " + what + ")", x.on(0, what), NONE);
        }
        for (int what : not(10, 33)) {
            s.due("on(0, " + what + ")", x.on(0, what), NONE);
        }
        BookedEmpty y = one(HOUR, 0, 0, 1);
        for (int what : new int[] {11, 21, 31}) {
            s.due("there is but one: on(0, " + what + ")", y.on(0, what), NONE);
            s.due("none at all: on(0, " + (what - 1) + ")", new BookedEmpty().on(0, what - 1), NONE);
        }
        s.says("Promise 16", "BAD: n.");
        for (int n : not(0, 60)) {
            s.due("on(" + n + ", 10)", x.on(n, 10), BAD);
            s.due("on(" + n + ", 20)", x.on(n, 20), BAD);
            s.due("on(" + n + ", 33)", x.on(n, 33), BAD);
        }
    }
}
