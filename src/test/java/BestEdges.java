/** Promises 17 to 30: each sentence that names a boundary. */
final class BestEdges {
    private static final int NONE = -1, BAD = -2, FULL = -4, ABSENT = -5;
    private static final long NO = Long.MIN_VALUE;
    private static final int HOUR = 0, BUSY = 1, GHOSTLY = 2, LATE = 3;

    private final Sentences s;

    private BestEdges(Sentences s) {
        this.s = s;
    }

    static void all(Sentences s) {
        BestEdges e = new BestEdges(s);
        e.most();
        e.dearest();
        e.best();
        e.holds();
        e.sudden();
        e.see();
        e.seeNone();
        e.can();
        e.where();
        e.odds();
        e.mean();
        e.plan();
        e.planRefused();
        e.ends();
        e.book();
        e.bookRefused();
        e.looked();
    }

    /** ROOMS of 5 and 20 SEATS, three HOURS at once, of 1, 5 and 20 PEOPLE; HOUR 0 is worth more in ROOM 1. */
    private static BookedEmpty three() {
        BookedEmpty x = Check.rooms(5, 20);
        int[] people = {1, 5, 20};
        for (int h = 0; h < 3; h++) {
            x.hour(HOUR, 0, 10, 4, people[h]);
        }
        Check.office(x, "like 30 h=0&r=1");
        return x;
    }

    private static BookedEmpty ghost() {
        BookedEmpty x = Check.rooms(20);
        x.hour(GHOSTLY, 0, 10, 4, 1);
        x.give(0, 0);
        return x;
    }

    private void most() {
        s.says("Promise 17", "MOST: what 0 how many, 1 WORTH, 10 and h which ROOM HOUR h has (-5).");
        BookedEmpty x = three();
        s.due("most(0)", x.most(0), 2);
        s.due("most(1)", x.most(1), 50);
        int[] rooms = {1, 0, ABSENT};
        for (int h = 0; h < 3; h++) {
            s.due("most(" + (10 + h) + ")", x.most(10 + h), rooms[h]);
        }
        for (int h = 3; h < 6; h++) {
            x.hour(HOUR, 0, 30, 1, 20);
        }
        s.due("most(13), of six", x.most(13), 1);
        s.due("most(15), of six", x.most(15), ABSENT);
        s.says("Promise 17", "NONE.");
        x = three();
        for (int what : new int[] {2, 3, 8, 9, 13, 14, 15, 16}) {
            s.due("most(" + what + ")", x.most(what), NONE);
        }
        for (int what : PromiseEdges.not(0, 12)) {
            s.due("most(" + what + ")", x.most(what), NONE);
        }
        s.due("most(10), no HOURS", Check.rooms(1).most(10), NONE);
    }

    private void dearest() {
        s.says("Promise 18", "DEAREST: what 0 WORTH, 10 and h which ROOM HOUR h has (-5).");
        BookedEmpty x = three();
        x.hour(HOUR, 0, 8, 8, 1);
        s.due("dearest(0)", x.dearest(0), 50);
        int[] rooms = {1, 0, ABSENT, ABSENT};
        for (int h = 0; h < 4; h++) {
            s.due("dearest(" + (10 + h) + ")", x.dearest(10 + h), rooms[h]);
        }
        for (int h = 4; h < 6; h++) {
            x.hour(HOUR, 0, 30, 1, 20);
        }
        s.due("dearest(14), of six", x.dearest(14), 1);
        s.due("dearest(15), of six", x.dearest(15), ABSENT);
        s.says("Promise 18", "NONE.");
        x = three();
        for (int what : new int[] {1, 2, 8, 9, 13, 14, 15, 16}) {
            s.due("dearest(" + what + ")", x.dearest(what), NONE);
        }
        for (int what : PromiseEdges.not(0, 12)) {
            s.due("dearest(" + what + ")", x.dearest(what), NONE);
        }
        s.due("dearest(10), no HOURS", Check.rooms(1).dearest(10), NONE);
    }

    private void best() {
        s.says("Promise 19", "What 0 ROOMY (bits), 1 MORE, 2 MEND (-5).");
        BookedEmpty x = Check.rooms(5, 20);
        x.hour(BUSY, 0, 10, 4, 20);
        x.hour(BUSY, 0, 10, 4, 20);
        s.due("best(0)", x.best(0), 2);
        s.due("best(1)", x.best(1), 1);
        s.due("best(2)", x.best(2), ABSENT);
        x.fault(1, true);
        s.due("best(0) beside a FAULT", x.best(0), 0);
        s.due("best(1) beside a FAULT", x.best(1), 1);
        s.due("best(2) beside a FAULT", x.best(2), 1);
        s.says("Promise 19", "NONE.");
        for (int what : PromiseEdges.not(0, 2)) {
            s.due("best(" + what + ")", x.best(what), NONE);
        }
        s.due("best(10)", x.best(10), NONE);
    }

    private void holds() {
        s.says("Promise 20", "HOLDS.");
        BookedEmpty x = ghost();
        s.due("holds(1)", x.holds(1), 0);
        s.due("holds(20)", x.holds(20), 0);
        s.says("Promise 20", "BAD.");
        for (int n : PromiseEdges.not(1, 20)) {
            s.due("holds(" + n + ")", x.holds(n), BAD);
        }
    }

    private void sudden() {
        s.says("Promise 21", "SUDDEN; -5.");
        BookedEmpty x = Check.rooms(5, 20);
        s.due("sudden(5, 0, 1)", x.sudden(5, 0, 1), 0);
        s.due("sudden(6, 0, 1)", x.sudden(6, 0, 1), 1);
        x.fault(1, true);
        s.due("sudden(6, 0, 1), a FAULT", x.sudden(6, 0, 1), ABSENT);
        s.due("no ROOMS", new BookedEmpty().sudden(20, 39, 12), ABSENT);
        s.says("Promise 21", "BAD: seats, quarter (0 .. 39), n.");
        for (int seats : PromiseEdges.not(1, 20)) {
            s.due("sudden(" + seats + ", 0, 1)", x.sudden(seats, 0, 1), BAD);
        }
        for (int quarter : PromiseEdges.not(0, 39)) {
            s.due("sudden(1, " + quarter + ", 1)", x.sudden(1, quarter, 1), BAD);
        }
        for (int n : PromiseEdges.not(1, 12)) {
            s.due("sudden(1, 0, " + n + ")", x.sudden(1, 0, n), BAD);
        }
        s.due("BAD without ROOMS too", new BookedEmpty().sudden(0, 0, 1), BAD);
        s.due("sudden(1, 39, 12)", x.sudden(1, 39, 12), 0);
    }

    private void see() {
        s.says("Promise 22", "What is SEEN comes: how many there are (room -1: none then, 0, whatever the others "
            + "are).");
        BookedEmpty x = Check.rooms(20, 20, 20, 20);
        s.due("none to none", x.see(-1, 0, true, 0), 0);
        for (int n = 1; n <= 6; n++) {
            s.due("see() the " + n, x.see(3, 39, false, 20), n);
        }
        s.due("none, the others as told", x.see(-1, 0, false, 0), 0);
        s.due("count(3)", x.count(3), 0);
        int[][] others = {{40, 0}, {-1, 0}, {0, 21}, {0, -1}, {Integer.MIN_VALUE, Integer.MAX_VALUE}};
        for (int[] o : others) {
            s.due("one", x.see(0, 0, true, 0), 1);
            s.due("none: see(-1, " + o[0] + ", true, " + o[1] + ")", x.see(-1, o[0], true, o[1]), 0);
            s.due("count(3)", x.count(3), 0);
        }
        x.hour(HOUR, 0, 10, 1, 1);
        x.see(0, 10, true, 0);
        s.due("SEEN: where(0)", x.where(0), 1);
        x.see(-1, 0, true, 0);
        s.due("SEEN no more: where(0)", x.where(0), 31);
        s.due("no ROOMS: see(-1, ..)", new BookedEmpty().see(-1, 0, true, 0), 0);
    }

    private void seeNone() {
        BookedEmpty x = Check.rooms(20, 20, 20, 20);
        s.says("Promise 22", "NONE: room, quarter (0 .. 39);");
        for (int room : PromiseEdges.not(-1, 3)) {
            s.due("see(" + room + ", 0, true, 0)", x.see(room, 0, true, 0), NONE);
        }
        for (int quarter : PromiseEdges.not(0, 39)) {
            s.due("see(0, " + quarter + ", true, 0)", x.see(0, quarter, true, 0), NONE);
        }
        s.due("no ROOMS", new BookedEmpty().see(0, 0, true, 0), NONE);
        s.says("Promise 22", "BAD: n;");
        for (int n : PromiseEdges.not(0, 20)) {
            s.due("see(0, 0, true, " + n + ")", x.see(0, 0, true, n), BAD);
        }
        s.due("count(3)", x.count(3), 0);
        s.says("Promise 22", "FULL: 6.");
        int[][] right = {{0, 0, 0}, {3, 39, 20}, {0, 39, 0}, {3, 0, 20}, {1, 1, 1}, {2, 38, 19}};
        for (int n = 0; n < 6; n++) {
            s.due("see() the " + n, x.see(right[n][0], right[n][1], n == 0, right[n][2]), n + 1);
        }
        s.due("the seventh", x.see(0, 0, true, 0), FULL);
        s.due("count(3)", x.count(3), 6);
    }

    private void can() {
        s.says("Promise 23", "CAN: what 0 how many, 1 the least; -5.");
        BookedEmpty x = Check.rooms(20);
        x.hour(LATE, 0, 10, 4, 1);
        x.give(0, 0);
        x.see(0, 10, false, 0);
        s.due("can(0, 0): 3 to 9", x.can(0, 0), 7);
        s.due("can(0, 1)", x.can(0, 1), 3);
        x.see(0, 14, true, 0);
        s.due("can(0, 0): none", x.can(0, 0), 0);
        s.due("can(0, 1): none", x.can(0, 1), ABSENT);
        s.says("Promise 23", "NONE.");
        for (int hour : PromiseEdges.not(0, 0)) {
            s.due("can(" + hour + ", 0)", x.can(hour, 0), NONE);
        }
        for (int what : PromiseEdges.not(0, 1)) {
            s.due("can(0, " + what + ")", x.can(0, what), NONE);
        }
        s.due("no HOURS", new BookedEmpty().can(0, 0), NONE);
    }

    private void where() {
        s.says("Promise 24", "WHERE, as bits.");
        BookedEmpty x = Check.rooms(20);
        for (int h = 0; h < 6; h++) {
            x.hour(HOUR, 0, 10, 4, 1);
            s.due("where(" + h + ")", x.where(h), 17);
        }
        x.see(0, 10, true, 0);
        s.due("where(5), SEEN", x.where(5), 1);
        s.says("Promise 24", "NONE.");
        s.due("no HOURS", Check.rooms(20).where(0), NONE);
        for (int hour : PromiseEdges.not(0, 5)) {
            s.due("where(" + hour + ")", x.where(hour), NONE);
        }
    }

    private void odds() {
        s.says("Promise 25", "ODDS; part 0 above, 1 below the line.");
        BookedEmpty x = ghost();
        s.due("2 of 40: odds(0, 0)", x.odds(0, 0), 1);
        s.due("2 of 40: odds(0, 1)", x.odds(0, 1), 20);
        s.says("Promise 25", "NO: room, part.");
        for (int room : PromiseEdges.not(0, 0)) {
            s.due("odds(" + room + ", 0)", x.odds(room, 0), NO);
        }
        for (int part : PromiseEdges.not(0, 1)) {
            s.due("odds(0, " + part + ")", x.odds(0, part), NO);
        }
        s.due("no ROOMS", new BookedEmpty().odds(0, 0), NO);
    }

    private void mean() {
        s.says("Promise 26", "MEAN; part likewise.");
        BookedEmpty x = ghost();
        s.due("mean(20, 0)", x.mean(20, 0), 2);
        s.due("mean(20, 1)", x.mean(20, 1), 1);
        s.due("mean(1, 0)", x.mean(1, 0), 2);
        s.says("Promise 26", "NO: n, part.");
        for (int n : PromiseEdges.not(1, 20)) {
            s.due("mean(" + n + ", 0)", x.mean(n, 0), NO);
        }
        for (int part : PromiseEdges.not(0, 1)) {
            s.due("mean(1, " + part + ")", x.mean(1, part), NO);
        }
    }

    private void plan() {
        s.says("Promise 27", "A row comes to the PLAN: how many there are (what -1: it is empty then, 0, whatever "
            + "the other is).");
        BookedEmpty x = ghost();
        s.due("empty as it is", x.plan(-1, 0), 0);
        s.due("a row", x.plan(1, 0), 1);
        s.due("ends(0)", x.ends(0), 0);
        for (int number : PromiseEdges.not(0, 0)) {
            x.plan(1, 0);
            s.due("plan(-1, " + number + ")", x.plan(-1, number), 0);
            s.due("count(4)", x.count(4), 0);
            s.due("ends(0)", x.ends(0), 2);
        }
        for (int n = 1; n <= 8; n++) {
            s.due("plan(0, 0) the " + n, x.plan(0, 0), n);
        }
        s.due("plan(-1, 0) of a full one", x.plan(-1, 0), 0);
        s.due("and then the first", x.plan(0, 0), 1);
    }

    private void planRefused() {
        BookedEmpty x = Check.rooms(20, 20);
        for (int h = 0; h < 3; h++) {
            x.hour(HOUR, 0, 10, 4, 1);
        }
        s.says("Promise 27", "NONE: what (0 .. 2), HOUR (by 1), ROOM (by 2);");
        for (int what : PromiseEdges.not(-1, 2)) {
            s.due("plan(" + what + ", 0)", x.plan(what, 0), NONE);
        }
        for (int hour : PromiseEdges.not(0, 2)) {
            s.due("plan(1, " + hour + ")", x.plan(1, hour), NONE);
        }
        for (int room : PromiseEdges.not(0, 1)) {
            s.due("plan(2, " + room + ")", x.plan(2, room), NONE);
        }
        s.due("count(4)", x.count(4), 0);
        s.due("the last HOUR", x.plan(1, 2), 1);
        s.due("the last ROOM", x.plan(2, 1), 2);
        int n = 2;
        for (int number : new int[] {-1, 3, Integer.MIN_VALUE, Integer.MAX_VALUE}) {
            n++;
            s.due("a DAY, whatever the number: plan(0, " + number + ")", x.plan(0, number), n);
        }
        s.due("no HOURS: plan(1, 0)", Check.rooms(1).plan(1, 0), NONE);
        s.due("no ROOMS: plan(2, 0)", new BookedEmpty().plan(2, 0), NONE);
        s.due("nothing there: plan(0, 0)", new BookedEmpty().plan(0, 0), 1);
        s.says("Promise 27", "FULL: 8.");
        s.due("the seventh", x.plan(1, 0), 7);
        s.due("the eighth", x.plan(2, 0), 8);
        for (int what = 0; what <= 2; what++) {
            s.due("the ninth: plan(" + what + ", 0)", x.plan(what, 0), FULL);
        }
        s.due("count(4)", x.count(4), 8);
    }

    private void ends() {
        s.says("Promise 28", "ENDS: what 0 EMPTY, 1 FREE quarters.");
        BookedEmpty x = ghost();
        s.due("ends(0)", x.ends(0), 2);
        s.due("ends(1)", x.ends(1), 38);
        s.says("Promise 28", "NONE.");
        for (int what : PromiseEdges.not(0, 1)) {
            s.due("ends(" + what + ")", x.ends(what), NONE);
        }
    }

    private void book() {
        s.says("Promise 29", "A row comes to the BOOK: how many there are (hour -1: it is empty then, 0, whatever "
            + "the other is).");
        BookedEmpty x = ghost();
        s.due("empty as it is", x.book(-1, 0), 0);
        for (int room : PromiseEdges.not(0, 0)) {
            s.due("a row that is otherwise", x.book(0, 4), 1);
            s.due("looked()", x.looked(), 0);
            s.due("book(-1, " + room + ")", x.book(-1, room), 0);
            s.due("count(5)", x.count(5), 0);
            s.due("looked()", x.looked(), ABSENT);
        }
        for (int n = 1; n <= 8; n++) {
            s.due("book(0, 0) the " + n, x.book(0, 0), n);
        }
        s.due("book(-1, 0) of a full one", x.book(-1, 0), 0);
        s.due("and then the first", x.book(0, 0), 1);
    }

    private void bookRefused() {
        BookedEmpty x = Check.rooms(20, 20);
        for (int h = 0; h < 3; h++) {
            x.hour(HOUR, 0, 10, 4, 1);
        }
        s.says("Promise 29", "NONE: hour; room (that there is, or 4);");
        for (int hour : PromiseEdges.not(-1, 2)) {
            s.due("book(" + hour + ", 0)", x.book(hour, 0), NONE);
        }
        for (int room : new int[] {-5, -1, 2, 3, 5, 16}) {
            s.due("book(0, " + room + ")", x.book(0, room), NONE);
        }
        for (int room : PromiseEdges.not(0, 4)) {
            s.due("book(0, " + room + ")", x.book(0, room), NONE);
        }
        s.due("count(5)", x.count(5), 0);
        s.due("the last HOUR, the last ROOM", x.book(2, 1), 1);
        s.due("none", x.book(2, 4), 2);
        BookedEmpty y = new BookedEmpty();
        s.due("no HOURS: book(0, 4)", y.book(0, 4), NONE);
        y.hour(HOUR, 0, 10, 4, 1);
        s.due("no ROOMS: book(0, 0)", y.book(0, 0), NONE);
        s.due("no ROOMS: book(0, 4)", y.book(0, 4), 1);
        s.says("Promise 29", "FULL: 8.");
        for (int n = 3; n <= 8; n++) {
            s.due("book(0, 0) the " + n, x.book(0, 0), n);
        }
        s.due("the ninth: book(0, 0)", x.book(0, 0), FULL);
        s.due("the ninth: book(0, 4)", x.book(0, 4), FULL);
        s.due("count(5)", x.count(5), 8);
    }

    private void looked() {
        s.says("Promise 30", "LOOKED at; -5.");
        BookedEmpty x = ghost();
        s.due("an empty BOOK", x.looked(), ABSENT);
        x.book(0, 0);
        s.due("all is so", x.looked(), ABSENT);
        x.book(0, 4);
        s.due("the second is otherwise", x.looked(), 1);
        x.give(0, -1);
        s.due("the first is otherwise", x.looked(), 0);
        s.due("no HOURS", new BookedEmpty().looked(), ABSENT);
    }
}
