/** Promises 2 to 10: ROOMS, HOURS, and who is in which when. */
public final class RoomsHoursTest {
    private static final Check C = new Check("RoomsHoursTest");

    public static void main(String[] args) {
        room();
        hour();
        of();
        ofEachKind();
        at();
        fault();
        row();
        give();
        clash();
        insideAndHeld();
        holdAndDay();
        C.end();
    }

    private static void room() {
        BookedEmpty x = new BookedEmpty();
        C.due("room(0)", x.room(0), -2);
        C.due("room(21)", x.room(21), -2);
        C.due("room(-1)", x.room(-1), -2);
        C.due("room(1)", x.room(1), 0);
        C.due("room(20)", x.room(20), 1);
        C.due("room(5)", x.room(5), 2);
        C.due("room(6)", x.room(6), 3);
        C.due("room(7), the fifth", x.room(7), -4);
        C.due("room(0), the fifth: BAD goes ahead", x.room(0), -2);
        C.due("count(1)", x.count(1), 4);
        C.due("at(1, 0)", x.at(1, 0), 20);
    }

    private static void hour() {
        BookedEmpty x = new BookedEmpty();
        int[][] wrong = {
            {0, -1, 0, 1, 1}, {0, 10, 0, 1, 1}, {0, 0, -1, 1, 1}, {0, 0, 40, 1, 1}, {0, 0, 0, 0, 1},
            {0, 0, 0, 13, 1}, {0, 0, 0, 1, 0}, {0, 0, 0, 1, 21},
        };
        for (int[] w : wrong) {
            C.due("hour() with a wrong number", x.hour(w[0], w[1], w[2], w[3], w[4]), -2);
        }
        C.due("hour(-1, ..)", x.hour(-1, 0, 0, 1, 1), -1);
        C.due("hour(7, 99, ..): NONE goes ahead", x.hour(7, 99, 0, 1, 1), -1);
        C.due("count(0)", x.count(0), 0);
        for (int h = 0; h < 6; h++) {
            C.due("hour() the " + h, x.hour(h, 9, 39, 12, 20), h);
        }
        C.due("hour(), the seventh", x.hour(0, 0, 0, 1, 1), -4);
        C.due("hour(), the seventh, wrong: BAD goes ahead", x.hour(0, 10, 0, 1, 1), -2);
        C.due("hour(), the seventh, of no KIND", x.hour(7, 0, 0, 1, 1), -1);
    }

    private static void of() {
        BookedEmpty x = Check.rooms(4, 8);
        x.hour(1, 7, 3, 5, 6);
        int[] want = {1, 7, 3, 5, 6, -5, 3, 8, 5, -1001, 0, 1, -1001};
        for (int what = 0; what < want.length; what++) {
            C.due("of(0, " + what + ")", x.of(0, what), want[what]);
        }
        C.due("of(0, 19)", x.of(0, 19), -1001);
        C.due("of(0, 20)", x.of(0, 20), 10);
        C.due("of(0, 21)", x.of(0, 21), 10);
        C.due("of(0, 22)", x.of(0, 22), -1001);
        C.due("of(0, -1)", x.of(0, -1), -1001);
        C.due("of(0, least)", x.of(0, Integer.MIN_VALUE), -1001);
        C.due("of(0, greatest)", x.of(0, Integer.MAX_VALUE), -1001);
        C.due("of(1, 0)", x.of(1, 0), -1001);
        C.due("of(-1, 0)", x.of(-1, 0), -1001);
        x.give(0, 1);
        C.due("of(0, 5) in a ROOM", x.of(0, 5), 1);
        x.fault(1, true);
        C.due("of(0, 11), BUSY and a FAULT", x.of(0, 11), 0);
        C.due("of(0, 5) stays", x.of(0, 5), 1);
    }

    /** v 8, FROM 10, LONG 6: COMES, GOES, how many HELD, on DAY 0 and DAY 1. */
    private static void ofEachKind() {
        int[][] want = {
            {10, 16, 6, 10}, {10, 16, 6, 10}, {-5, 16, 2, -5}, {12, 16, 6, 12}, {10, 20, 6, 10}, {10, 16, 6, -5},
            {12, 16, 6, 12},
        };
        for (int kind = 0; kind < 7; kind++) {
            BookedEmpty x = new BookedEmpty();
            x.hour(kind, 8, 10, 6, 1);
            for (int i = 0; i < 3; i++) {
                C.due("of(0, " + (6 + i) + ") of KIND " + kind, x.of(0, 6 + i), want[kind][i]);
            }
            C.due("on(1, 10) of KIND " + kind, x.on(1, 10), want[kind][3]);
            x.pass(1);
            C.due("of(0, 6) a DAY on, of KIND " + kind, x.of(0, 6), want[kind][3]);
        }
        BookedEmpty x = new BookedEmpty();
        x.hour(5, 1, 10, 6, 1);
        int[] comes = {10, -5, -5, 10, -5, -5, 10};
        int[] held = {6, 2, 2, 6, 2, 2, 6};
        for (int day = 0; day < comes.length; day++) {
            C.due("STANDING, v 1, DAY " + day, x.of(0, 6), comes[day]);
            C.due("STANDING, v 1, HELD on DAY " + day, x.of(0, 8), held[day]);
            x.pass(1);
        }
        x.hour(4, 5, 10, 6, 1);
        C.due("OVER, v 5: the half is cut", x.of(1, 7), 18);
        x.hour(3, 2, 10, 6, 1);
        C.due("LATE, v 2: the third is cut", x.of(2, 6), 10);
        x.hour(3, 9, 10, 6, 1);
        C.due("LATE, v 9", x.of(3, 6), 13);
        C.due("LATE, v 9: more than FROM and HOLD", x.of(3, 8), 2);
        x.hour(3, 8, 10, 6, 1);
        C.due("LATE, v 8: just FROM and HOLD", x.of(4, 8), 6);
    }

    private static void at() {
        BookedEmpty x = Check.rooms(4, 9);
        x.hour(2, 0, 5, 4, 1);
        x.hour(3, 6, 20, 5, 1);
        x.give(0, 1);
        x.give(1, 1);
        x.fault(0, true);
        C.due("at(0, 0)", x.at(0, 0), 4);
        C.due("at(0, 1)", x.at(0, 1), 1);
        C.due("at(0, 2)", x.at(0, 2), 0);
        C.due("at(0, 3)", x.at(0, 3), 40);
        C.due("at(1, 0)", x.at(1, 0), 9);
        C.due("at(1, 1)", x.at(1, 1), 0);
        C.due("at(1, 2): 2 by the ghost, 2 by the late one", x.at(1, 2), 4);
        C.due("at(1, 3): 2 and 5 are HELD", x.at(1, 3), 33);
        C.due("at(2, 0)", x.at(2, 0), -1);
        C.due("at(-1, 0)", x.at(-1, 0), -1);
        C.due("at(0, 4)", x.at(0, 4), -1);
        C.due("at(0, -1)", x.at(0, -1), -1);
    }

    private static void fault() {
        BookedEmpty x = Check.rooms(4);
        C.due("fault(0, false), none yet", x.fault(0, false), 0);
        C.due("fault(0, true)", x.fault(0, true), 0);
        C.due("fault(0, true) again", x.fault(0, true), 1);
        C.due("at(0, 1)", x.at(0, 1), 1);
        C.due("fault(0, false)", x.fault(0, false), 1);
        C.due("at(0, 1) then", x.at(0, 1), 0);
        C.due("fault(1, true)", x.fault(1, true), -1);
        C.due("fault(-1, true)", x.fault(-1, true), -1);
        for (int kind = 0; kind < 6; kind++) {
            x.hour(kind, 0, kind, 1, 4);
        }
        x.fault(0, true);
        for (int kind = 0; kind < 6; kind++) {
            C.due("FITS beside a FAULT, KIND " + kind, x.of(kind, 10), kind == 1 || kind == 4 ? 0 : 1);
        }
    }

    private static void row() {
        BookedEmpty x = new BookedEmpty();
        x.hour(3, 0, 10, 6, 1);
        x.hour(6, 3, 10, 6, 1);
        C.due("row(2, 0, 1)", x.row(2, 0, 1), -1);
        C.due("row(-1, 0, 1)", x.row(-1, 0, 1), -1);
        C.due("row(1, 4, 1)", x.row(1, 4, 1), -1);
        C.due("row(1, -1, 1)", x.row(1, -1, 1), -1);
        C.due("row(1, 4, 10): NONE goes ahead", x.row(1, 4, 10), -1);
        C.due("row(1, 0, 10)", x.row(1, 0, 10), -2);
        C.due("row(1, 0, -1)", x.row(1, 0, -1), -2);
        C.due("row(0, 0, 10): BAD goes ahead", x.row(0, 0, 10), -2);
        C.due("row(0, 0, 1), LATE", x.row(0, 0, 1), -3);
        C.due("row(1, 1, 5)", x.row(1, 1, 5), 0);
        C.due("row(1, 1, 9)", x.row(1, 1, 9), 5);
        C.due("row(1, 1, 0)", x.row(1, 1, 0), 9);
        C.due("row(1, 1, 9) again", x.row(1, 1, 9), 0);
        C.due("row(1, 3, 1)", x.row(1, 3, 1), 0);
        int[] comes = {11, 20, 11, 12, 11, 20};
        for (int day = 0; day < 4; day++) {
            C.due("TOLD COMES on DAY " + day, x.of(1, 6), comes[day]);
            C.due("TOLD COMES, four DAYS on", x.on(4, 11), comes[day]);
            C.due("TOLD COMES, a DAY on", x.on(1, 11), comes[day + 1]);
            C.due("TOLD COMES, two DAYS on", x.on(2, 11), comes[day + 2]);
            x.pass(1);
        }
    }

    private static void give() {
        BookedEmpty x = Check.rooms(4, 8);
        x.hour(0, 0, 10, 4, 5);
        x.hour(1, 0, 20, 4, 5);
        C.due("give(0, 0): SEATS", x.give(0, 0), -3);
        C.due("give(0, 1)", x.give(0, 1), -5);
        C.due("give(0, 1) again", x.give(0, 1), 1);
        C.due("give(0, 2)", x.give(0, 2), -1);
        C.due("give(0, -2)", x.give(0, -2), -1);
        C.due("give(2, 0)", x.give(2, 0), -1);
        C.due("give(-1, -1)", x.give(-1, -1), -1);
        C.due("give(0, -1)", x.give(0, -1), 1);
        C.due("of(0, 5)", x.of(0, 5), -5);
        C.due("give(0, -1) again", x.give(0, -1), -5);
        x.fault(1, true);
        C.due("give(1, 1): BUSY and a FAULT", x.give(1, 1), -3);
        C.due("give(0, 1): an HOUR beside a FAULT", x.give(0, 1), -5);
        x.fault(1, false);
        C.due("give(1, 1)", x.give(1, 1), -5);
        C.due("told(3)", x.told(3), 2);
    }

    private static void clash() {
        BookedEmpty x = Check.rooms(20, 20);
        x.hour(0, 0, 10, 4, 1);
        x.hour(0, 0, 14, 4, 1);
        x.hour(0, 0, 13, 1, 1);
        x.hour(2, 0, 6, 4, 1);
        x.hour(4, 9, 4, 2, 1);
        x.give(0, 0);
        C.due("just behind: no CLASH", x.give(1, 0), -5);
        C.due("in the last quarter: a CLASH", x.give(2, 0), -3);
        C.due("the other ROOM", x.give(2, 1), -5);
        C.due("just ahead", x.give(3, 0), -5);
        C.due("OVER stays into others, which is no CLASH", x.give(4, 0), -5);
        C.due("four in one ROOM", x.told(3), 5);
        Check.office(x, "day 12");
        x.give(0, -1);
        x.give(2, -1);
        C.due("behind the end of the day nothing is BOOKED", x.give(2, 0), -5);
        C.due("so there is no CLASH", x.give(0, 0), -5);
        BookedEmpty y = Check.rooms(20);
        y.hour(0, 0, 10, 4, 1);
        y.hour(0, 0, 9, 1, 1);
        y.hour(0, 0, 9, 2, 1);
        y.give(0, 0);
        C.due("up to where the other begins", y.give(1, 0), -5);
        y.give(1, -1);
        C.due("into the other's first", y.give(2, 0), -3);
    }

    private static void insideAndHeld() {
        BookedEmpty x = Check.rooms(20, 20);
        x.hour(4, 6, 10, 3, 1);
        x.hour(3, 6, 13, 3, 1);
        x.hour(2, 0, 20, 5, 1);
        x.hour(0, 0, 10, 3, 1);
        x.give(0, 0);
        x.give(1, 0);
        x.give(2, 0);
        int[][] want = {
            {9, 0, 0}, {10, 1, 1}, {12, 1, 1}, {13, 1, 2}, {14, 1, 2}, {15, 3, 2}, {16, 0, 0}, {20, 0, 4}, {21, 0, 4},
            {22, 0, 0}, {39, 0, 0}, {0, 0, 0},
        };
        for (int[] w : want) {
            C.due("inside(0, " + w[0] + ")", x.inside(0, w[0]), w[1]);
            C.due("held(0, " + w[0] + ")", x.held(0, w[0]), w[2]);
        }
        C.due("inside(1, 10)", x.inside(1, 10), 0);
        C.due("held(1, 10)", x.held(1, 10), 0);
        int[][] wrong = {{2, 0}, {-1, 0}, {0, 40}, {0, -1}, {0, 64 + 10}, {0, Integer.MIN_VALUE}};
        for (int[] w : wrong) {
            C.due("inside(" + w[0] + ", " + w[1] + ")", x.inside(w[0], w[1]), -1);
            C.due("held(" + w[0] + ", " + w[1] + ")", x.held(w[0], w[1]), -1);
        }
        C.due("at(0, 2): EMPTY is HELD and nobody in, OVER's PEOPLE too", x.at(0, 2), 2);
        C.due("at(0, 3)", x.at(0, 3), 40 - 8);
    }

    private static void holdAndDay() {
        BookedEmpty x = Check.rooms(20);
        x.hour(0, 0, 8, 12, 1);
        x.hour(3, 9, 2, 2, 1);
        x.give(0, 0);
        x.give(1, 0);
        C.due("the late one COMES", x.of(1, 6), 5);
        C.due("and GOES ahead of that", x.of(1, 7), 4);
        C.due("so nobody is in", x.inside(0, 5), 0);
        C.due("HELD is not more than BOOKED", x.of(1, 8), 2);
        Check.office(x, "hold 0;day 10");
        C.due("hold 0: nothing is HELD for the late", x.of(1, 8), 0);
        C.due("hold 0: who COMES at FROM keeps it", x.of(0, 8), 2);
        C.due("inside(0, 9)", x.inside(0, 9), 1);
        C.due("inside(0, 10), the day has ended", x.inside(0, 10), 0);
        C.due("held(0, 10), the day has ended", x.held(0, 10), 0);
        C.due("at(0, 3), FREE, of 10", x.at(0, 3), 8);
        C.due("GOES does not mind the day", x.of(0, 7), 20);
        Check.office(x, "hold 99;day 40");
        BookedEmpty y = Check.rooms(20);
        y.hour(0, 0, 10, 4, 1);
        y.hour(0, 0, 10, 4, 1);
        Check.office(y, "day 10");
        y.give(0, 0);
        y.give(1, 0);
        Check.office(y, "day 12");
        C.due("two in one ROOM, since the day is longer now", y.inside(0, 10), 3);
        C.due("HELD for two", y.held(0, 11), 3);
        C.due("two of 12 quarters are not FREE", y.at(0, 3), 10);
        C.due("hold 99", x.of(1, 8), 2);
        C.due("day 40", x.of(0, 8), 12);
    }
}
