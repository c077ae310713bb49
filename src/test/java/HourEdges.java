/** The Terms, part 1: each sentence on ROOMS and HOURS that names a boundary. */
final class HourEdges {
    private static final String PART = "Terms 1";
    private static final int NONE = -1, BAD = -2, STATE = -3, FULL = -4, ABSENT = -5;
    private static final int HOUR = 0, BUSY = 1, GHOSTLY = 2, LATE = 3, OVER = 4, STANDING = 5, TOLD = 6;

    private final Sentences s;

    private HourEdges(Sentences s) {
        this.s = s;
    }

    static void all(Sentences s) {
        HourEdges e = new HourEdges(s);
        e.rooms();
        e.hours();
        e.numbers();
        e.booked();
        e.comes();
        e.comesStanding();
        e.comesTold();
        e.goes();
        e.inside();
        e.held();
        e.heldByHold();
        e.emptyOrFree();
        e.fits();
        e.clash();
    }

    /** One ROOM of 20 SEATS, and one HOUR of it with 1 of PEOPLE. */
    private static BookedEmpty one(int kind, int v, int from, int quarters) {
        BookedEmpty x = Check.rooms(20);
        x.hour(kind, v, from, quarters, 1);
        x.give(0, 0);
        return x;
    }

    /** Exactly in these quarters, of those around them. */
    private void isIn(String what, BookedEmpty x, int from, int to) {
        for (int q = Math.max(0, from - 2); q <= Math.min(39, to + 2); q++) {
            s.due(what + ": inside(0, " + q + ")", x.inside(0, q), q >= from && q < to ? 1 : 0);
        }
    }

    private void isHeld(String what, BookedEmpty x, int from, int to) {
        for (int q = Math.max(0, from - 2); q <= Math.min(39, to + 2); q++) {
            s.due(what + ": held(0, " + q + ")", x.held(0, q), q >= from && q < to ? 1 : 0);
        }
        s.due(what + ": of(0, 8)", x.of(0, 8), to - from);
    }

    private void rooms() {
        s.says(PART, "ROOMS 0 .. 3, as they come");
        BookedEmpty x = new BookedEmpty();
        s.due("at(0, 0), none yet", x.at(0, 0), NONE);
        for (int r = 0; r < 4; r++) {
            s.due("room(" + (r + 7) + ")", x.room(r + 7), r);
        }
        s.due("room(7), the fifth", x.room(7), FULL);
        for (int r = 0; r < 4; r++) {
            s.due("at(" + r + ", 0)", x.at(r, 0), r + 7);
        }
        s.due("at(4, 0)", x.at(4, 0), NONE);
        s.due("at(-1, 0)", x.at(-1, 0), NONE);

        s.says(PART, "have SEATS (1 .. 20)");
        x = new BookedEmpty();
        s.due("room(0)", x.room(0), BAD);
        s.due("room(21)", x.room(21), BAD);
        s.due("room(1)", x.room(1), 0);
        s.due("room(20)", x.room(20), 1);
        s.due("at(0, 0)", x.at(0, 0), 1);
        s.due("at(1, 0)", x.at(1, 0), 20);

        s.says(PART, "a FAULT, or none (none at first)");
        x = Check.rooms(1, 20);
        s.due("at(0, 1)", x.at(0, 1), 0);
        s.due("at(1, 1)", x.at(1, 1), 0);
        x.fault(1, true);
        s.due("at(0, 1), the other's", x.at(0, 1), 0);
        s.due("at(1, 1)", x.at(1, 1), 1);
        x.fault(1, false);
        s.due("at(1, 1), none again", x.at(1, 1), 0);
    }

    private void hours() {
        s.says(PART, "HOURS 0 .. 5, as they come");
        BookedEmpty x = new BookedEmpty();
        s.due("of(0, 0), none yet", x.of(0, 0), -1001);
        for (int h = 0; h < 6; h++) {
            s.due("hour(), v " + h, x.hour(0, h, 0, 1, 1), h);
        }
        s.due("hour(), the seventh", x.hour(0, 6, 0, 1, 1), FULL);
        for (int h = 0; h < 6; h++) {
            s.due("of(" + h + ", 1)", x.of(h, 1), h);
        }
        s.due("of(6, 1)", x.of(6, 1), -1001);
        s.due("of(-1, 1)", x.of(-1, 1), -1001);

        s.says(PART, "are of KINDS: 0 HOUR; 1 BUSY, 2 GHOSTLY, 3 LATE under HOUR; 4 OVER under BUSY; 5 STANDING "
            + "under GHOSTLY; 6 TOLD under LATE");
        int[][] under = {{0}, {0, 1}, {0, 2}, {0, 3}, {0, 1, 4}, {0, 2, 5}, {0, 3, 6}};
        for (int kind = HOUR; kind <= TOLD; kind++) {
            x = one(kind, 0, 0, 1);
            s.due("of(0, 0)", x.of(0, 0), kind);
            for (int k = HOUR; k <= TOLD; k++) {
                boolean is = false;
                for (int u : under[kind]) {
                    is |= u == k;
                }
                s.due("KIND " + kind + " taken(0, " + k + ")", x.taken(0, k), is ? kind : -12);
            }
        }
        s.due("a KIND below them", x.hour(-1, 0, 0, 1, 1), NONE);
        s.due("a KIND above them", x.hour(7, 0, 0, 1, 1), NONE);

        s.says(PART, "a ROOM, or none (none at first)");
        x = Check.rooms(20);
        x.hour(0, 0, 0, 1, 1);
        s.due("of(0, 5)", x.of(0, 5), ABSENT);
        s.due("told(3)", x.told(3), 0);
        s.due("inside(0, 0)", x.inside(0, 0), 0);
        x.give(0, 0);
        s.due("of(0, 5)", x.of(0, 5), 0);
        s.due("told(3)", x.told(3), 1);

        s.says(PART, "DAY: 0 at first");
        s.due("told(0)", new BookedEmpty().told(0), 0);
    }

    /** One number of an HOUR after the other: the two that are just as told, the two that are just not. */
    private void numbers() {
        String[] words = {"with a number v (0 .. 9)", "FROM (a quarter, 0 .. 39)", "LONG (1 .. 12 quarters)", "PEOPLE (1 .. 20)"};
        int[] least = {0, 0, 1, 1};
        int[] greatest = {9, 39, 12, 20};
        for (int n = 0; n < 4; n++) {
            s.says(PART, words[n]);
            BookedEmpty x = new BookedEmpty();
            s.due("one too small", hourWith(x, n, least[n] - 1), BAD);
            s.due("one too large", hourWith(x, n, greatest[n] + 1), BAD);
            s.due("the smallest there is", hourWith(x, n, Integer.MIN_VALUE), BAD);
            s.due("the largest there is", hourWith(x, n, Integer.MAX_VALUE), BAD);
            s.due("none of these is there", x.count(0), 0);
            s.due("the least", hourWith(x, n, least[n]), 0);
            s.due("the greatest", hourWith(x, n, greatest[n]), 1);
            s.due("of(0, " + (n + 1) + ")", x.of(0, n + 1), least[n]);
            s.due("of(1, " + (n + 1) + ")", x.of(1, n + 1), greatest[n]);
        }
    }

    private static int hourWith(BookedEmpty x, int which, int n) {
        return x.hour(0, which == 0 ? n : 3, which == 1 ? n : 3, which == 2 ? n : 3, which == 3 ? n : 3);
    }

    private void booked() {
        s.says(PART, "BOOKED quarters of an HOUR: FROM .. FROM and LONG less 1, as far as the day goes.");
        isHeld("FROM 10, LONG 1", one(HOUR, 0, 10, 1), 10, 11);
        isHeld("FROM 10, LONG 12", one(HOUR, 0, 10, 12), 10, 22);
        isHeld("FROM 0, LONG 12", one(HOUR, 0, 0, 12), 0, 12);
        isHeld("up to the day's end", one(HOUR, 0, 28, 12), 28, 40);
        isHeld("one beyond it", one(HOUR, 0, 29, 12), 29, 40);
        isHeld("FROM the last quarter", one(HOUR, 0, 39, 12), 39, 40);
        BookedEmpty x = one(HOUR, 0, 10, 3);
        Check.office(x, "day 13");
        isHeld("a day of 13, just as far", x, 10, 13);
        Check.office(x, "day 12");
        isHeld("a day of 12, one less", x, 10, 12);
        Check.office(x, "day 11");
        isHeld("a day of 11", x, 10, 11);
        Check.office(x, "day 10");
        isHeld("a day of 10: none", x, 10, 10);
        Check.office(x, "day 1");
        s.due("a day of 1: of(0, 8)", x.of(0, 8), 0);
    }

    private void comes() {
        s.says(PART, "COMES (a quarter; -5: nobody does): HOUR, BUSY, OVER: FROM.");
        for (int kind : new int[] {HOUR, BUSY, OVER}) {
            s.due("KIND " + kind + ", FROM 0", one(kind, 9, 0, 1).of(0, 6), 0);
            s.due("KIND " + kind + ", FROM 39", one(kind, 9, 39, 1).of(0, 6), 39);
            s.due("KIND " + kind + ", another DAY", one(kind, 9, 7, 1).on(1, 10), 7);
        }

        s.says(PART, "GHOSTLY: -5");
        for (int day = 0; day <= 4; day++) {
            s.due("on(" + day + ", 10)", one(GHOSTLY, 0, 10, 12).on(day, 10), ABSENT);
        }
        isIn("GHOSTLY", one(GHOSTLY, 0, 10, 12), 10, 10);

        s.says(PART, "LATE: FROM, and the third (cut) of v.");
        int[] third = {0, 0, 0, 1, 1, 1, 2, 2, 2, 3};
        for (int v = 0; v <= 9; v++) {
            s.due("v " + v, one(LATE, v, 10, 6).of(0, 6), 10 + third[v]);
        }
        s.due("beyond the day's end", one(LATE, 9, 39, 1).of(0, 6), 42);
    }

    private void comesStanding() {
        s.says(PART, "STANDING: FROM, if DAY is a multiple of (v + 2), else -5.");
        for (int v = 0; v <= 9; v++) {
            BookedEmpty x = one(STANDING, v, 10, 6);
            for (int day = 0; day <= 23; day++) {
                int rest = day;
                while (rest >= v + 2) {
                    rest -= v + 2;
                }
                s.due("v " + v + ", on(" + day + ", 10)", x.on(day, 10), rest == 0 ? 10 : ABSENT);
            }
            s.due("v " + v + ", DAY 0", x.of(0, 6), 10);
            x.pass(1);
            s.due("v " + v + ", DAY 1", x.of(0, 6), ABSENT);
            x.pass(v + 1);
            s.due("v " + v + ", DAY " + (v + 2), x.of(0, 6), 10);
        }
    }

    private void comesTold() {
        s.says(PART, "TOLD: as LATE, and its ROW (four numbers 0 .. 9; 0 at first) at DAY modulo 4 more.");
        for (int part = 0; part < 4; part++) {
            s.due("row() at first", one(TOLD, 0, 10, 6).row(0, part, 1), 0);
        }
        BookedEmpty x = one(TOLD, 8, 10, 6);
        for (int day = 0; day <= 4; day++) {
            s.due("as LATE at first: on(" + day + ", 10)", x.on(day, 10), 12);
        }
        s.due("row(0, 4, 1)", x.row(0, 4, 1), NONE);
        s.due("row(0, -1, 1)", x.row(0, -1, 1), NONE);
        s.due("row(0, 0, -1)", x.row(0, 0, -1), BAD);
        s.due("row(0, 0, 10)", x.row(0, 0, 10), BAD);
        int[] row = {9, 0, 5, 1};
        for (int part = 0; part < 4; part++) {
            x.row(0, part, row[part]);
        }
        for (int day = 0; day <= 9; day++) {
            s.due("on(" + day + ", 10)", x.on(day, 10), 12 + row[day % 4]);
        }
        x.pass(3);
        s.due("DAY 3", x.of(0, 6), 13);
        s.due("DAY 3 and 1", x.on(1, 10), 21);
        x.pass(1);
        s.due("DAY 4", x.of(0, 6), 21);
        x = one(TOLD, 9, 39, 12);
        x.row(0, 0, 9);
        s.due("all that can be", x.of(0, 6), 39 + 3 + 9);
    }

    private void goes() {
        s.says(PART, "GOES (a quarter, at which nobody is in any more): FROM and LONG; OVER: the half (cut) of v "
            + "more.");
        for (int kind = HOUR; kind <= TOLD; kind++) {
            s.due("KIND " + kind + ", v 1", one(kind, 1, 10, 3).of(0, 7), 13);
            s.due("KIND " + kind + ", v 9", one(kind, 9, 10, 3).of(0, 7), kind == OVER ? 17 : 13);
        }
        int[] half = {0, 0, 1, 1, 2, 2, 3, 3, 4, 4};
        for (int v = 0; v <= 9; v++) {
            s.due("OVER, v " + v, one(OVER, v, 10, 3).of(0, 7), 13 + half[v]);
        }
        s.due("all that can be", one(OVER, 9, 39, 12).of(0, 7), 39 + 12 + 4);
        BookedEmpty x = one(HOUR, 0, 10, 3);
        s.due("in just ahead of it", x.inside(0, 12), 1);
        s.due("at it nobody is in", x.inside(0, 13), 0);
        Check.office(x, "day 5");
        s.due("whatever the day", x.of(0, 7), 13);
    }

    private void inside() {
        s.says(PART, "If it COMES, its PEOPLE are in its ROOM from the quarter at which it COMES on, ahead of that "
            + "at which it GOES (none, if that is not later), as far as the day goes.");
        isIn("an HOUR", one(HOUR, 9, 10, 3), 10, 13);
        isIn("LATE, v 6", one(LATE, 6, 10, 3), 12, 13);
        isIn("LATE, GOES when it COMES", one(LATE, 9, 10, 3), 13, 13);
        isIn("LATE, GOES ahead of that", one(LATE, 9, 10, 1), 11, 11);
        isIn("LATE, one quarter is left", one(LATE, 9, 10, 4), 13, 14);
        isIn("OVER", one(OVER, 4, 10, 3), 10, 15);
        BookedEmpty told = one(TOLD, 3, 10, 6);
        told.row(0, 0, 4);
        isIn("TOLD, one quarter is left", told, 15, 16);
        told.row(0, 0, 5);
        isIn("TOLD, none is left", told, 16, 16);
        isIn("in the last quarter", one(HOUR, 0, 39, 12), 39, 40);
        isIn("in the first quarter", one(HOUR, 0, 0, 1), 0, 1);
        BookedEmpty x = one(OVER, 9, 10, 3);
        Check.office(x, "day 17");
        isIn("a day of 17, just as far", x, 10, 17);
        Check.office(x, "day 16");
        isIn("a day of 16, one less", x, 10, 16);
        Check.office(x, "day 11");
        isIn("a day of 11", x, 10, 11);
        Check.office(x, "day 10");
        isIn("a day of 10", x, 10, 10);
        BookedEmpty none = Check.rooms(20);
        none.hour(HOUR, 0, 10, 3, 1);
        isIn("without a ROOM", none, 10, 10);
    }

    private void held() {
        s.says(PART, "HELD quarters: the BOOKED ones; but if nobody COMES, or if COMES is more than FROM and HOLD, "
            + "together, only those of them that are less than FROM and HOLD, together.");
        for (int kind : new int[] {HOUR, BUSY, OVER}) {
            isHeld("KIND " + kind, one(kind, 9, 10, 5), 10, 15);
        }
        isHeld("GHOSTLY, LONG 5", one(GHOSTLY, 0, 10, 5), 10, 12);
        isHeld("GHOSTLY, LONG 3", one(GHOSTLY, 0, 10, 3), 10, 12);
        isHeld("GHOSTLY, LONG 2", one(GHOSTLY, 0, 10, 2), 10, 12);
        isHeld("GHOSTLY, LONG 1", one(GHOSTLY, 0, 10, 1), 10, 11);
        isHeld("GHOSTLY, FROM the last quarter", one(GHOSTLY, 0, 39, 5), 39, 40);
        isHeld("LATE by less than HOLD", one(LATE, 5, 10, 5), 10, 15);
        isHeld("LATE by HOLD", one(LATE, 8, 10, 5), 10, 15);
        isHeld("LATE by one more than HOLD", one(LATE, 9, 10, 5), 10, 12);
        isHeld("LATE by one more than HOLD, LONG 1", one(LATE, 9, 10, 1), 10, 11);
        isHeld("STANDING on DAY 0", one(STANDING, 1, 10, 5), 10, 15);
        BookedEmpty x = one(STANDING, 1, 10, 5);
        x.pass(1);
        isHeld("STANDING on DAY 1", x, 10, 12);
        x.pass(2);
        isHeld("STANDING on DAY 3", x, 10, 15);
        x = one(TOLD, 3, 10, 5);
        x.row(0, 0, 1);
        isHeld("TOLD by HOLD", x, 10, 15);
        x.row(0, 0, 2);
        isHeld("TOLD by one more than HOLD", x, 10, 12);
    }

    private void heldByHold() {
        s.says(PART, "HELD quarters: the BOOKED ones; but if nobody COMES, or if COMES is more than FROM and HOLD, "
            + "together, only those of them that are less than FROM and HOLD, together.");
        int[] holds = {0, 1, 4, 5, 6, 99};
        for (int hold : holds) {
            BookedEmpty x = one(GHOSTLY, 0, 10, 5);
            Check.office(x, "hold " + hold);
            isHeld("GHOSTLY, HOLD " + hold, x, 10, 10 + Math.min(hold, 5));
            x = one(LATE, 3, 10, 5);
            Check.office(x, "hold " + hold);
            isHeld("LATE by 1, HOLD " + hold, x, 10, hold == 0 ? 10 : 15);
            x = one(LATE, 2, 10, 5);
            Check.office(x, "hold " + hold);
            isHeld("LATE by 0, HOLD " + hold, x, 10, 15);
            x = one(GHOSTLY, 0, 10, 5);
            Check.office(x, "day 12;hold " + hold);
            isHeld("GHOSTLY, a day of 12, HOLD " + hold, x, 10, 10 + Math.min(hold, 2));
        }
    }

    private void emptyOrFree() {
        s.says(PART, "At a quarter a ROOM is EMPTY, if it is HELD for some HOUR that has it, and no PEOPLE are in "
            + "it; FREE, if it is not HELD for any, and no PEOPLE are in it.");
        BookedEmpty x = one(HOUR, 0, 10, 3);
        s.due("HELD and PEOPLE in it: EMPTY", x.at(0, 2), 0);
        s.due("HELD and PEOPLE in it: FREE", x.at(0, 3), 37);
        x = one(GHOSTLY, 0, 10, 1);
        s.due("HELD and nobody in: EMPTY", x.at(0, 2), 1);
        s.due("HELD and nobody in: FREE", x.at(0, 3), 39);
        x.give(0, -1);
        s.due("of an HOUR without it: EMPTY", x.at(0, 2), 0);
        s.due("of an HOUR without it: FREE", x.at(0, 3), 40);
        x = one(OVER, 4, 10, 3);
        s.due("not HELD and PEOPLE in it: EMPTY", x.at(0, 2), 0);
        s.due("not HELD and PEOPLE in it: FREE", x.at(0, 3), 35);
        x.hour(GHOSTLY, 0, 14, 2, 1);
        x.give(1, 0);
        s.due("HELD for one, PEOPLE of another in it: EMPTY", x.at(0, 2), 1);
        s.due("HELD for one, PEOPLE of another in it: FREE", x.at(0, 3), 34);
        x = one(LATE, 6, 10, 3);
        s.due("ahead of those who are late: EMPTY", x.at(0, 2), 2);
        s.due("ahead of those who are late: FREE", x.at(0, 3), 37);
        s.due("a ROOM alone: EMPTY", Check.rooms(1).at(0, 2), 0);
        s.due("a ROOM alone: FREE", Check.rooms(1).at(0, 3), 40);
    }

    private void fits() {
        s.says(PART, "FITS: an HOUR FITS a ROOM, if SEATS are PEOPLE or more, and (BUSY, OVER) the ROOM has no "
            + "FAULT.");
        for (int kind = HOUR; kind <= TOLD; kind++) {
            BookedEmpty x = Check.rooms(6, 7, 8);
            x.hour(kind, 0, 0, 1, 7);
            s.due("KIND " + kind + ", one of SEATS too few", x.of(0, 10), 0);
            s.due("KIND " + kind + ", as many", x.of(0, 11), 1);
            s.due("KIND " + kind + ", one more", x.of(0, 12), 1);
            x.fault(1, true);
            boolean minds = kind == BUSY || kind == OVER;
            s.due("KIND " + kind + ", a FAULT", x.of(0, 11), minds ? 0 : 1);
            s.due("KIND " + kind + ", give(0, 1)", x.give(0, 1), minds ? STATE : ABSENT);
            s.due("KIND " + kind + ", another's FAULT", x.of(0, 12), 1);
        }
        BookedEmpty x = Check.rooms(1, 20);
        x.hour(0, 0, 0, 1, 1);
        x.hour(0, 0, 0, 1, 20);
        s.due("1 in 1", x.of(0, 10), 1);
        s.due("20 in 20", x.of(1, 11), 1);
        s.due("20 in 1", x.of(1, 10), 0);
    }

    /** Whether give() refuses an HOUR from a quarter on, so long, beside one from 10 on, 4 long; a day of so many. */
    private void clash(int from, int quarters, int day, boolean want) {
        BookedEmpty x = one(HOUR, 0, 10, 4);
        Check.office(x, "day " + day);
        x.hour(HOUR, 0, from, quarters, 1);
        s.due("FROM " + from + ", LONG " + quarters + ", a day of " + day, x.give(1, 0), want ? STATE : ABSENT);
    }

    private void clash() {
        s.says(PART, "Two HOURS CLASH, if some quarter is BOOKED for both.");
        clash(6, 4, 40, false);
        clash(6, 5, 40, true);
        clash(10, 4, 40, true);
        clash(11, 1, 40, true);
        clash(13, 1, 40, true);
        clash(13, 12, 40, true);
        clash(14, 12, 40, false);
        clash(8, 12, 40, true);
        clash(12, 2, 13, true);
        clash(12, 2, 12, false);
        clash(8, 2, 12, false);
        clash(10, 1, 11, true);
        clash(10, 1, 10, false);
        BookedEmpty x = one(OVER, 9, 10, 4);
        x.hour(GHOSTLY, 0, 14, 4, 1);
        s.due("who stays OVER is not BOOKED then", x.give(1, 0), ABSENT);
        x = one(GHOSTLY, 0, 10, 4);
        x.hour(HOUR, 0, 13, 1, 1);
        s.due("who does not come is BOOKED all the same", x.give(1, 0), STATE);
    }
}
