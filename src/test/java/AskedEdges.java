/** The Terms, part 2, up to MEAN: each sentence on what is asked that names a boundary. */
final class AskedEdges {
    private static final String PART = "Terms 2";
    private static final int BAD = -2, ABSENT = -5;
    private static final long NO = Long.MIN_VALUE;
    private static final int HOUR = 0, BUSY = 1, GHOSTLY = 2, LATE = 3, OVER = 4, STANDING = 5, TOLD = 6;

    private final Sentences s;

    private AskedEdges(Sentences s) {
        this.s = s;
    }

    static void all(Sentences s) {
        AskedEdges e = new AskedEdges(s);
        e.beyondTheLastDay();
        e.waste();
        e.on();
        e.way();
        e.most();
        e.mostOfSeveral();
        e.dearest();
        e.roomy();
        e.more();
        e.mend();
        e.holds();
        e.holdsOfDays();
        e.sudden();
        e.suddenOrder();
        e.seen();
        e.can();
        e.where();
        e.odds();
        e.mean();
    }

    /** One ROOM of 20 SEATS, and one HOUR of it with 1 of PEOPLE. */
    private static BookedEmpty one(int kind, int v, int from, int quarters) {
        BookedEmpty x = Check.rooms(20);
        x.hour(kind, v, from, quarters, 1);
        x.give(0, 0);
        return x;
    }

    private static void toDay(BookedEmpty x, int day) {
        for (int d = 60; d <= day; d += 60) {
            x.pass(60);
        }
        x.pass(day % 60);
    }

    private void beyondTheLastDay() {
        s.says(PART, "All that follows is asked, goes on from how all is (DAYS also beyond 9999), and changes "
            + "nothing.");
        BookedEmpty x = one(STANDING, 0, 10, 6);
        toDay(x, 9999);
        s.due("told(0)", x.told(0), 9999);
        s.due("waste(1)", x.waste(1), 2);
        s.due("waste(2), up to DAY 10000", x.waste(2), 2);
        s.due("waste(30), up to DAY 10028", x.waste(30), 30);
        s.due("on(1, 10)", x.on(1, 10), 10);
        s.due("on(60, 10)", x.on(60, 10), ABSENT);
        s.due("on(59, 20)", x.on(59, 20), 0);
        s.due("on(60, 20)", x.on(60, 20), 2);
        s.due("on(60, 30)", x.on(60, 30), 38);
        s.due("mean(20, 0)", x.mean(20, 0), 1);
        s.due("holds(20)", x.holds(20), 0);
        x.see(0, 10, true, 1);
        s.due("where(0), DAY 10000", x.where(0), 1);
        s.due("can(0, 0), DAY 10000: 2, 4, 5, 8, 10", x.can(0, 0), 5);
        x.plan(0, 0);
        s.due("ends(0), DAY 10000", x.ends(0), 0);
        for (int n = 2; n <= 8; n++) {
            x.plan(0, 0);
        }
        s.due("ends(0), DAY 10007", x.ends(0), 2);
        s.due("told(0) then", x.told(0), 9999);
    }

    private void waste() {
        s.says(PART, "WASTE of n DAYS (0 .. 30): how many quarters, of all ROOMS, are EMPTY on the n DAYS from this "
            + "one on, together.");
        BookedEmpty x = Check.rooms(20, 20, 20, 20);
        x.hour(STANDING, 1, 10, 6, 1);
        x.hour(GHOSTLY, 0, 39, 6, 1);
        x.give(0, 0);
        x.give(1, 3);
        s.due("waste(-1)", x.waste(-1), BAD);
        s.due("waste(31)", x.waste(31), BAD);
        for (int start = 0; start < 3; start++) {
            int sum = 0;
            for (int n = 0; n <= 30; n++) {
                s.due("DAY " + start + ": waste(" + n + ")", x.waste(n), sum);
                sum += (start + n) % 3 == 0 ? 1 : 3;
            }
            x.pass(1);
        }
        s.due("without ROOMS", new BookedEmpty().waste(30), 0);
    }

    private void on() {
        s.says(PART, "ON n DAYS (0 .. 60): COMES of one behind n; how many quarters of that DAY a ROOM is EMPTY, "
            + "FREE.");
        for (int what : new int[] {10, 20, 30}) {
            BookedEmpty x = one(STANDING, 8, 10, 6);
            s.due("on(-1, " + what + ")", x.on(-1, what), BAD);
            s.due("on(61, " + what + ")", x.on(61, what), BAD);
            for (int n = 0; n <= 60; n++) {
                boolean comes = n % 10 == 0;
                int want = what == 10 ? comes ? 10 : ABSENT : what == 20 ? comes ? 0 : 2 : comes ? 34 : 38;
                s.due("on(" + n + ", " + what + ")", x.on(n, what), want);
            }
            x.pass(10);
            s.due("ten DAYS on: on(60, " + what + ")", x.on(60, what), what == 10 ? 10 : what == 20 ? 0 : 34);
            x.pass(1);
            s.due("eleven DAYS on: on(60, " + what + ")", x.on(60, what), what == 10 ? ABSENT : what == 20 ? 2 : 38);
        }
    }

    private void way() {
        s.says(PART, "A WAY gives each HOUR a ROOM that it FITS, or none, so that no two with one ROOM CLASH (what "
            + "all have now is not looked at).");
        BookedEmpty x = Check.rooms(7);
        x.hour(HOUR, 0, 10, 4, 8);
        s.due("one of SEATS too few: most(10)", x.most(10), ABSENT);
        s.due("one of SEATS too few: dearest(10)", x.dearest(10), ABSENT);
        x.hour(BUSY, 0, 10, 4, 7);
        s.due("as many: most(11)", x.most(11), 0);
        s.due("as many: dearest(11)", x.dearest(11), 0);
        x.fault(0, true);
        s.due("a FAULT: most(11)", x.most(11), ABSENT);
        s.due("a FAULT: dearest(11)", x.dearest(11), ABSENT);
        x = Check.rooms(20);
        x.hour(HOUR, 0, 10, 4, 1);
        x.hour(HOUR, 0, 13, 4, 1);
        x.hour(HOUR, 0, 14, 4, 1);
        s.due("one quarter in common, and none: most(0)", x.most(0), 2);
        s.due("most(11)", x.most(11), ABSENT);
        s.due("most(12)", x.most(12), 0);
        s.due("dearest(0)", x.dearest(0), 20);
        s.due("dearest(11)", x.dearest(11), ABSENT);
        s.due("dearest(12)", x.dearest(12), 0);
        Check.office(x, "day 13");
        s.due("as far as the day goes none has one: most(0)", x.most(0), 3);
        x.give(1, 0);
        s.due("what one has does not matter: most(10)", x.most(10), 0);
        Check.office(x, "day 40");
        s.due("what one has does not matter: most(11)", x.most(11), ABSENT);
        s.due("what one has does not matter: dearest(11)", x.dearest(11), ABSENT);
        x = Check.rooms(20);
        x.hour(GHOSTLY, 0, 10, 5, 1);
        x.hour(GHOSTLY, 0, 14, 5, 1);
        s.due("BOOKED for both, though HELD for one at most: most(0)", x.most(0), 1);
        x.hour(OVER, 9, 7, 3, 1);
        s.due("who stays OVER is not BOOKED then: most(0)", x.most(0), 2);
    }

    private void most() {
        s.says(PART, "MOST: of all WAYS that with the most HOURS that have a ROOM, of these that with the greatest "
            + "WORTH, together");
        BookedEmpty x = Check.rooms(20);
        x.hour(HOUR, 0, 10, 12, 1);
        x.hour(HOUR, 0, 10, 2, 1);
        x.hour(HOUR, 0, 12, 2, 1);
        x.hour(HOUR, 0, 12, 2, 1);
        Check.office(x, "like 99 h=0;like 1 h=3");
        s.due("two go ahead of one dear one: most(0)", x.most(0), 2);
        s.due("most(1)", x.most(1), 21);
        s.due("most(10)", x.most(10), ABSENT);
        s.due("most(11)", x.most(11), 0);
        s.due("the less dear of two: most(12)", x.most(12), ABSENT);
        s.due("the dearer of two: most(13)", x.most(13), 0);
        x = Check.rooms(20, 20, 20, 20);
        for (int h = 0; h < 6; h++) {
            x.hour(HOUR, 0, 10, 1, 1);
        }
        s.due("as many as ROOMS: most(0)", x.most(0), 4);
        Check.office(x, "like 1 h=5&r=3;like 1 h=4&r=2;like 1 h=3&r=1;like 1 h=2&r=0");
        s.due("most(1)", x.most(1), 44);
        for (int h = 0; h < 6; h++) {
            s.due("most(" + (10 + h) + ")", x.most(10 + h), h < 2 ? ABSENT : h - 2);
        }
        Check.office(x, "mind 99 h<9");
        s.due("without WORTH: most(0)", x.most(0), 4);
        s.due("without WORTH: most(1)", x.most(1), 0);
        s.due("no ROOMS, no HOURS: most(0)", new BookedEmpty().most(0), 0);
        s.due("no ROOMS, no HOURS: most(1)", new BookedEmpty().most(1), 0);
        s.due("no HOURS: most(0)", Check.rooms(1).most(0), 0);
        x = new BookedEmpty();
        x.hour(HOUR, 0, 0, 1, 1);
        s.due("no ROOMS: most(0)", x.most(0), 0);
        s.due("no ROOMS: most(1)", x.most(1), 0);
        s.due("no ROOMS: most(10)", x.most(10), ABSENT);
    }

    private void mostOfSeveral() {
        s.says(PART, "(of several the first as a row by HOURS, lesser ROOMS first, none last): how many; WORTH; "
            + "which ROOM one has.");
        BookedEmpty x = Check.rooms(20, 20);
        for (int h = 0; h < 3; h++) {
            x.hour(HOUR, 0, 10, 1, 1);
        }
        s.due("lesser ROOMS first: most(10)", x.most(10), 0);
        s.due("then the next: most(11)", x.most(11), 1);
        s.due("none last: most(12)", x.most(12), ABSENT);
        Check.office(x, "mind 1 h=0&r=0;mind 1 h=1&r=1");
        s.due("greater WORTH first: most(10)", x.most(10), 1);
        s.due("greater WORTH first: most(11)", x.most(11), 0);
        Check.office(x, "mind 2 h=0&r=0;mind 2 h=1&r=0");
        s.due("by the first HOUR first: most(10)", x.most(10), 1);
        s.due("by the first HOUR first: most(11)", x.most(11), ABSENT);
        s.due("by the first HOUR first: most(12)", x.most(12), 0);
        BookedEmpty y = Check.rooms(20);
        y.hour(HOUR, 0, 10, 2, 1);
        y.hour(HOUR, 0, 11, 2, 1);
        s.due("a ROOM goes ahead of none: most(10)", y.most(10), 0);
        s.due("a ROOM goes ahead of none: most(11)", y.most(11), ABSENT);
    }

    private void dearest() {
        s.says(PART, "DEAREST: of all WAYS that with the greatest WORTH, together (of several the first likewise): "
            + "WORTH; which ROOM one has.");
        BookedEmpty x = Check.rooms(20);
        x.hour(HOUR, 0, 10, 12, 1);
        x.hour(HOUR, 0, 10, 2, 1);
        x.hour(HOUR, 0, 12, 2, 1);
        Check.office(x, "like 9 h=0");
        s.due("two dearer than one: dearest(0)", x.dearest(0), 20);
        s.due("dearest(10)", x.dearest(10), ABSENT);
        s.due("dearest(11)", x.dearest(11), 0);
        Check.office(x, "like 10 h=0");
        s.due("as dear, the first: dearest(0)", x.dearest(0), 20);
        s.due("dearest(10)", x.dearest(10), 0);
        s.due("dearest(11)", x.dearest(11), ABSENT);
        s.due("dearest(12)", x.dearest(12), ABSENT);
        Check.office(x, "like 11 h=0");
        s.due("one dearer than two: dearest(0)", x.dearest(0), 21);
        s.due("dearest(10)", x.dearest(10), 0);
        Check.office(x, "mind 99 h<9");
        s.due("without WORTH: dearest(0)", x.dearest(0), 0);
        s.due("a ROOM goes ahead of none: dearest(10)", x.dearest(10), 0);
        s.due("dearest(11)", x.dearest(11), ABSENT);
        Check.office(x, "mind 10 h=0");
        s.due("of no WORTH: dearest(0)", x.dearest(0), 20);
        s.due("of no WORTH: dearest(10)", x.dearest(10), ABSENT);
        BookedEmpty y = Check.rooms(20, 20);
        y.hour(HOUR, 0, 10, 2, 1);
        s.due("lesser ROOMS first: dearest(10)", y.dearest(10), 0);
        Check.office(y, "like 1 r=1");
        s.due("the dearer ROOM: dearest(10)", y.dearest(10), 1);
        s.due("no ROOMS, no HOURS: dearest(0)", new BookedEmpty().dearest(0), 0);
        y = new BookedEmpty();
        y.hour(HOUR, 0, 0, 1, 1);
        s.due("no ROOMS: dearest(0)", y.dearest(0), 0);
        s.due("no ROOMS: dearest(10)", y.dearest(10), ABSENT);
    }

    private void roomy() {
        s.says(PART, "ROOMY: the fewest ROOMS by which alone as many HOURS can have one as in MOST (of several sets "
            + "the least as bits): which (bits).");
        s.due("no ROOMS, no HOURS", new BookedEmpty().best(0), 0);
        BookedEmpty x = Check.rooms(5, 6, 7, 8);
        s.due("no HOURS", x.best(0), 0);
        x.hour(HOUR, 0, 10, 2, 20);
        s.due("none that FITS", x.best(0), 0);
        x.hour(HOUR, 0, 10, 2, 5);
        s.due("of four sets the least", x.best(0), 1);
        x.hour(HOUR, 0, 12, 2, 8);
        s.due("one ROOM for both, not the first", x.best(0), 8);
        x.hour(HOUR, 0, 13, 2, 5);
        s.due("two ROOMS: the fourth and the first", x.best(0), 8 + 1);
        x.hour(HOUR, 0, 13, 2, 7);
        s.due("three ROOMS: the fourth, the third, the first", x.best(0), 8 + 4 + 1);
        x.hour(HOUR, 0, 13, 1, 6);
        s.due("all four", x.best(0), 15);
        BookedEmpty y = Check.rooms(9, 5, 5, 5);
        for (int h = 0; h < 2; h++) {
            y.hour(BUSY, 0, 10, 1, 5);
        }
        s.due("of six sets the least", y.best(0), 3);
        y.fault(0, true);
        s.due("of three sets the least", y.best(0), 6);
        y.fault(1, true);
        s.due("the only set", y.best(0), 12);
    }

    private void more() {
        s.says(PART, "MORE: how many more HOURS than in MOST could have one, were there one more ROOM, of 20 SEATS, "
            + "without a FAULT.");
        s.due("no ROOMS, no HOURS", new BookedEmpty().best(1), 0);
        BookedEmpty x = new BookedEmpty();
        for (int h = 0; h < 6; h++) {
            x.hour(h < 3 ? BUSY : OVER, 9, h * 2, 2, 20);
            s.due("no ROOMS, none CLASHES: so many", x.best(1), h + 1);
        }
        x = Check.rooms(19, 19, 19, 19);
        for (int h = 0; h < 6; h++) {
            x.hour(BUSY, 0, 10, 1, h < 5 ? 19 : 20);
        }
        s.due("four ROOMS and one more", x.best(1), 1);
        for (int r = 0; r < 4; r++) {
            x.fault(r, true);
        }
        s.due("a FAULT in all but that one", x.best(1), 1);
        x = Check.rooms(1);
        x.hour(HOUR, 0, 10, 1, 1);
        s.due("all have one already", x.best(1), 0);
        s.due("count(1) stays", x.count(1), 1);
        s.due("the next is the second", x.room(2), 1);
    }

    private void mend() {
        s.says(PART, "MEND: the ROOM, were whose FAULT gone, most HOURS could have one, if more than in MOST (of "
            + "several the first; -5: none).");
        s.due("no ROOMS, no HOURS", new BookedEmpty().best(2), ABSENT);
        BookedEmpty x = Check.rooms(5, 5, 5, 5);
        x.hour(BUSY, 0, 10, 1, 5);
        s.due("no FAULT", x.best(2), ABSENT);
        x.fault(3, true);
        s.due("a FAULT that does not matter", x.best(2), ABSENT);
        x.fault(0, true);
        x.fault(1, true);
        x.fault(2, true);
        s.due("of four the first", x.best(2), 0);
        x.fault(0, false);
        s.due("as many as in MOST is not more", x.best(2), ABSENT);
        x.hour(OVER, 0, 10, 1, 5);
        s.due("of three the first", x.best(2), 1);
        BookedEmpty y = Check.rooms(4, 5, 6, 6);
        for (int r = 0; r < 4; r++) {
            y.fault(r, true);
        }
        y.hour(BUSY, 0, 10, 1, 4);
        y.hour(BUSY, 0, 11, 1, 6);
        s.due("the one that helps most", y.best(2), 2);
        y.hour(BUSY, 0, 12, 1, 7);
        s.due("one that none FITS", y.best(2), 2);
        y = Check.rooms(5, 5, 5);
        for (int h = 0; h < 3; h++) {
            y.fault(h, true);
            y.hour(BUSY, 0, 10, 1, 5);
        }
        s.due("the FAULT of one alone, not of all up to it", y.best(2), 0);
        BookedEmpty z = Check.rooms(5);
        z.fault(0, true);
        z.hour(LATE, 0, 10, 1, 5);
        s.due("who does not mind the FAULT", z.best(2), ABSENT);
        z.hour(BUSY, 0, 10, 1, 5);
        s.due("who would only take the other's place", z.best(2), ABSENT);
        z.hour(BUSY, 0, 11, 1, 6);
        s.due("one of SEATS too few", z.best(2), ABSENT);
        z.hour(BUSY, 0, 11, 1, 5);
        s.due("one more", z.best(2), 0);
        s.due("the FAULT stays", z.at(0, 1), 1);
    }

    /** In one ROOM, a ghost and so many quarters on PEOPLE from its first on, which is given while the day is short. */
    private static BookedEmpty covered(int quarters) {
        BookedEmpty x = Check.rooms(20);
        Check.office(x, "day 1");
        x.hour(GHOSTLY, 0, 10, 12, 1);
        x.give(0, 0);
        if (quarters > 0) {
            x.hour(HOUR, 0, 10, quarters, 1);
            x.give(1, 0);
        }
        Check.office(x, "hold 5");
        return x;
    }

    private void holds() {
        s.says(PART, "the number (0 .. 12) by which, were it HOLD, WASTE of n is least (of several the greatest).");
        for (int quarters = 0; quarters <= 12; quarters++) {
            BookedEmpty x = covered(quarters);
            s.due(quarters + " quarters are not EMPTY: holds(1)", x.holds(1), quarters);
            s.due(quarters + " quarters are not EMPTY: holds(20)", x.holds(20), quarters);
            s.due("told(1) stays", x.told(1), 5);
        }
        s.due("nothing is EMPTY", new BookedEmpty().holds(1), 12);
        s.due("nothing is EMPTY", one(HOUR, 0, 10, 12).holds(20), 12);
        BookedEmpty x = new BookedEmpty();
        Check.office(x, "hold 99");
        s.due("12 at most, whatever HOLD is", x.holds(1), 12);
    }

    /**
     * From DAY 4308 on, of the DAYS on which the TOLD one is late (each fourth) the first four have one STANDING, the
     * fifth has none: so on the 20th DAY, and on none ahead of it, quarters are EMPTY.
     */
    private static BookedEmpty emptyOnThe20th() {
        BookedEmpty x = Check.rooms(20);
        Check.office(x, "day 1");
        x.hour(TOLD, 0, 10, 12, 1);
        x.row(0, 3, 9);
        int[] v = {1, 3, 5, 9};
        for (int i = 0; i < 4; i++) {
            x.hour(STANDING, v[i], 10, 12, 1);
        }
        for (int h = 0; h < 5; h++) {
            x.give(h, 0);
        }
        Check.office(x, "day 40");
        toDay(x, 4308);
        return x;
    }

    private void holdsOfDays() {
        s.says(PART, "HOLDS of n DAYS (1 .. 20):");
        BookedEmpty x = emptyOnThe20th();
        s.due("holds(0)", x.holds(0), BAD);
        s.due("holds(21)", x.holds(21), BAD);
        for (int n = 1; n <= 20; n++) {
            s.due("holds(" + n + ")", x.holds(n), n < 20 ? 12 : 0);
        }
    }

    private void sudden() {
        s.says(PART, "SUDDEN of s SEATS (1 .. 20), a quarter, n quarters (1 .. 12): the ROOM with s SEATS or more "
            + "and no FAULT in which nobody is in any of these today, as far as the day goes,");
        BookedEmpty x = Check.rooms(20);
        int[][] wrong = {{0, 0, 1}, {21, 0, 1}, {1, -1, 1}, {1, 40, 1}, {1, 0, 0}, {1, 0, 13}};
        for (int[] w : wrong) {
            s.due("sudden(" + w[0] + ", " + w[1] + ", " + w[2] + ")", x.sudden(w[0], w[1], w[2]), BAD);
        }
        s.due("the least of all", x.sudden(1, 0, 1), 0);
        s.due("the greatest of all", x.sudden(20, 39, 12), 0);
        x.fault(0, true);
        s.due("a FAULT", x.sudden(1, 0, 1), ABSENT);
        x = Check.rooms(7);
        s.due("as many SEATS", x.sudden(7, 0, 1), 0);
        s.due("one more", x.sudden(8, 0, 1), ABSENT);
        x = one(HOUR, 0, 20, 4);
        s.due("up to where they come", x.sudden(1, 8, 12), 0);
        s.due("one further", x.sudden(1, 9, 12), ABSENT);
        s.due("in their first", x.sudden(1, 20, 1), ABSENT);
        s.due("in their last", x.sudden(1, 23, 1), ABSENT);
        s.due("behind their last", x.sudden(1, 24, 1), 0);
        s.due("around them", x.sudden(1, 15, 12), ABSENT);
        x = one(STANDING, 0, 20, 4);
        s.due("they come today", x.sudden(1, 20, 1), ABSENT);
        x.pass(1);
        s.due("they do not come today", x.sudden(1, 20, 1), 0);
        x = one(HOUR, 0, 39, 1);
        s.due("in the last quarter of the day", x.sudden(1, 28, 12), ABSENT);
        Check.office(x, "day 39");
        s.due("as far as the day goes", x.sudden(1, 28, 12), 0);
        s.due("behind the end of the day", x.sudden(1, 39, 1), 0);
    }

    private void suddenOrder() {
        s.says(PART, "FREE ones in all of these ahead of others, then those with fewer SEATS, then the first (-5: "
            + "none).");
        BookedEmpty x = Check.rooms(4, 20);
        x.hour(GHOSTLY, 0, 20, 4, 1);
        x.give(0, 0);
        s.due("HELD in the first of these", x.sudden(1, 20, 1), 1);
        s.due("HELD in the last of these", x.sudden(1, 9, 12), 1);
        s.due("just ahead of that", x.sudden(1, 8, 12), 0);
        s.due("in the last that is HELD", x.sudden(1, 21, 12), 1);
        s.due("just behind that", x.sudden(1, 22, 12), 0);
        x.fault(1, true);
        s.due("HELD, if there is no other", x.sudden(1, 20, 1), 0);
        s.due("SEATS too few", x.sudden(5, 20, 1), ABSENT);
        x = Check.rooms(9, 8, 7, 7);
        s.due("the fewest SEATS, of two the first", x.sudden(1, 0, 1), 2);
        s.due("eight", x.sudden(8, 0, 1), 1);
        s.due("nine", x.sudden(9, 0, 1), 0);
        s.due("ten", x.sudden(10, 0, 1), ABSENT);
        x = Check.rooms(20, 1);
        x.hour(GHOSTLY, 0, 20, 4, 1);
        x.give(0, 1);
        s.due("20 SEATS and FREE go ahead of 1 and HELD", x.sudden(1, 20, 1), 0);
        x.hour(GHOSTLY, 0, 20, 4, 1);
        x.give(1, 0);
        s.due("both HELD: fewer SEATS", x.sudden(1, 20, 1), 1);
        x = Check.rooms(5, 5);
        for (int h = 0; h < 2; h++) {
            x.hour(GHOSTLY, 0, 20, 4, 1);
            x.give(h, h);
        }
        s.due("both HELD, as many SEATS: the first", x.sudden(1, 20, 1), 0);
        s.due("no ROOMS", new BookedEmpty().sudden(1, 0, 1), ABSENT);
    }

    private void seen() {
        s.says(PART, "SEEN told by hand: a ROOM, a quarter, whether PEOPLE are in it then behind n DAYS (0 .. 20) "
            + "from now (6 at most).");
        BookedEmpty x = Check.rooms(20);
        s.due("n -1", x.see(0, 0, true, -1), BAD);
        s.due("n 21", x.see(0, 0, true, 21), BAD);
        for (int n = 1; n <= 6; n++) {
            s.due("see() the " + n, x.see(0, 0, false, 0), n);
        }
        s.due("see() the seventh", x.see(0, 0, false, 0), -4);
        for (int n = 0; n <= 20; n++) {
            x = one(STANDING, 8, 0, 12);
            s.due("see(0, 0, true, " + n + ")", x.see(0, 0, true, n), 1);
            s.due("behind " + n + " DAYS: where(0)", x.where(0), n % 10 == 0 ? 1 : 0);
        }
        for (int q : new int[] {0, 1, 2, 38, 39}) {
            x = one(HOUR, 0, q, 1);
            x.see(0, q, true, 20);
            s.due("in quarter " + q, x.where(0), 1);
            x.see(0, q, false, 20);
            s.due("not in quarter " + q + " too: that can't be", x.where(0), 0);
        }
        x = one(STANDING, 8, 0, 12);
        x.see(0, 0, true, 10);
        s.due("on DAY 0, behind 10 DAYS from now", x.where(0), 1);
        x.pass(1);
        s.due("on DAY 1, behind 10 DAYS from now", x.where(0), 0);
        s.due("on DAY 1, behind 10 DAYS from now: can(0, 1)", x.can(0, 1), 9);
        x = one(HOUR, 0, 10, 2);
        x.see(0, 9, false, 0);
        x.see(0, 10, true, 0);
        x.see(0, 11, true, 0);
        x.see(0, 12, false, 0);
        x.see(0, 39, false, 0);
        s.due("five that are so", x.where(0), 1);
        x.see(0, 12, true, 0);
        s.due("the sixth counts too", x.where(0), 0);
    }

    private void can() {
        s.says(PART, "CAN of one: how many numbers v (0 .. 9) there are by which, were that its v now, all of SEEN "
            + "is so; the least (-5: none).");
        BookedEmpty x = one(LATE, 4, 10, 6);
        s.due("nothing SEEN: all", x.can(0, 0), 10);
        s.due("nothing SEEN: the least", x.can(0, 1), 0);
        x.see(0, 12, false, 0);
        s.due("only 9", x.can(0, 0), 1);
        s.due("only 9: the least", x.can(0, 1), 9);
        x.see(0, 13, false, 0);
        s.due("none", x.can(0, 0), 0);
        s.due("none: the least", x.can(0, 1), ABSENT);
        x = one(STANDING, 4, 10, 6);
        x.pass(2);
        x.see(0, 10, true, 0);
        s.due("only 0", x.can(0, 0), 1);
        s.due("only 0: the least", x.can(0, 1), 0);
        x = one(OVER, 4, 10, 6);
        x.see(0, 18, true, 0);
        s.due("6 to 9", x.can(0, 0), 4);
        s.due("6 to 9: the least", x.can(0, 1), 6);
        x.give(0, -1);
        s.due("without a ROOM", x.can(0, 0), 0);
        s.due("without a ROOM: the least", x.can(0, 1), ABSENT);
    }

    private void where() {
        s.says(PART, "WHERE of one: those ROOMS, as bits, and 16 for none, by which, were that its ROOM now, all of "
            + "SEEN is so.");
        BookedEmpty x = new BookedEmpty();
        x.hour(HOUR, 0, 10, 2, 20);
        s.due("no ROOMS", x.where(0), 16);
        for (int r = 0; r < 4; r++) {
            x.room(1);
            s.due("ROOMS 0 .. " + r + ", FITS or not", x.where(0), 16 + (2 << r) - 1);
        }
        for (int r = 0; r < 4; r++) {
            x.see(-1, 0, true, 0);
            x.see(r, 10, true, 0);
            s.due("in ROOM " + r, x.where(0), 1 << r);
            x.see(-1, 0, true, 0);
            x.see(r, 10, false, 0);
            s.due("not in ROOM " + r, x.where(0), 31 - (1 << r));
        }
        x.see(0, 10, true, 0);
        x.see(1, 10, true, 0);
        s.due("in two at once", x.where(0), 0);
        x.hour(HOUR, 0, 10, 2, 1);
        x.give(1, 0);
        s.due("one of them by another HOUR, a CLASH or not", x.where(0), 2);
        x.see(-1, 0, true, 0);
        x.see(0, 10, true, 0);
        s.due("it is so whichever it has", x.where(0), 31);
    }

    private void odds() {
        s.says(PART, "ODDS of a ROOM: if it is any quarter of today, each alike likely: how likely it is EMPTY then:"
            + " a fraction in lowest terms.");
        int[][] want = {{1, 1, 1, 1}, {2, 1, 1, 2}, {2, 2, 1, 1}, {12, 8, 2, 3}, {12, 12, 1, 1}, {13, 12, 12, 13},
            {40, 10, 1, 4}, {40, 0, 0, 1}, {7, 0, 0, 1}, {39, 12, 4, 13}, {1, 0, 0, 1}};
        for (int[] w : want) {
            BookedEmpty x = one(GHOSTLY, 0, 0, 12);
            Check.office(x, "day " + w[0] + ";hold " + w[1]);
            s.due("at(0, 2)", x.at(0, 2), w[1]);
            s.due(w[1] + " of " + w[0] + ": odds(0, 0)", x.odds(0, 0), w[2]);
            s.due(w[1] + " of " + w[0] + ": odds(0, 1)", x.odds(0, 1), w[3]);
        }
        BookedEmpty x = one(STANDING, 0, 0, 4);
        s.due("today none: odds(0, 0)", x.odds(0, 0), 0);
        s.due("today none: odds(0, 1)", x.odds(0, 1), 1);
        x.pass(1);
        s.due("today two: odds(0, 0)", x.odds(0, 0), 1);
        s.due("today two: odds(0, 1)", x.odds(0, 1), 20);
    }

    private void mean() {
        s.says(PART, "MEAN of n DAYS (1 .. 20): how many quarters a day are EMPTY, of all ROOMS, by WASTE of n: a "
            + "fraction in lowest terms.");
        BookedEmpty x = emptyOnThe20th();
        s.due("mean(0, 0)", x.mean(0, 0), NO);
        s.due("mean(21, 0)", x.mean(21, 0), NO);
        for (int n = 1; n < 20; n++) {
            s.due("mean(" + n + ", 0)", x.mean(n, 0), 0);
            s.due("mean(" + n + ", 1)", x.mean(n, 1), 1);
        }
        s.due("2 on 20 DAYS: mean(20, 0)", x.mean(20, 0), 1);
        s.due("2 on 20 DAYS: mean(20, 1)", x.mean(20, 1), 10);
        x = Check.rooms(20, 20);
        x.hour(STANDING, 1, 10, 4, 1);
        x.hour(GHOSTLY, 0, 10, 1, 1);
        x.give(0, 0);
        x.give(1, 1);
        int[][] want = {{1, 1}, {2, 1}, {7, 3}, {2, 1}, {11, 5}, {7, 3}};
        for (int n = 1; n <= want.length; n++) {
            s.due("of both ROOMS: mean(" + n + ", 0)", x.mean(n, 0), want[n - 1][0]);
            s.due("of both ROOMS: mean(" + n + ", 1)", x.mean(n, 1), want[n - 1][1]);
        }
        s.due("without ROOMS: mean(20, 0)", new BookedEmpty().mean(20, 0), 0);
        s.due("without ROOMS: mean(20, 1)", new BookedEmpty().mean(20, 1), 1);
    }
}
