/** Promises 22 to 26: what is SEEN, odds and means. */
public final class SeenTest {
    private static final Check C = new Check("SeenTest");

    public static void main(String[] args) {
        see();
        can();
        where();
        later();
        odds();
        mean();
        C.end();
    }

    private static void see() {
        BookedEmpty x = Check.rooms(4, 4);
        C.due("see(2, 0, true, 0)", x.see(2, 0, true, 0), -1);
        C.due("see(-2, 0, true, 0)", x.see(-2, 0, true, 0), -1);
        C.due("see(0, 40, true, 0)", x.see(0, 40, true, 0), -1);
        C.due("see(0, -1, true, 21): NONE goes ahead", x.see(0, -1, true, 21), -1);
        C.due("see(0, 0, true, 21)", x.see(0, 0, true, 21), -2);
        C.due("see(0, 0, true, -1)", x.see(0, 0, true, -1), -2);
        for (int n = 1; n <= 6; n++) {
            C.due("see() the " + n, x.see(1, 39, false, 20), n);
        }
        C.due("see(), the seventh", x.see(1, 0, false, 0), -4);
        C.due("see(), the seventh, BAD goes ahead", x.see(1, 0, false, 21), -2);
        C.due("count(3)", x.count(3), 6);
        C.due("see(-1, 99, true, 99)", x.see(-1, 99, true, 99), 0);
        C.due("count(3), none", x.count(3), 0);
        C.due("see() again", x.see(1, 0, false, 0), 1);
    }

    private static void can() {
        BookedEmpty x = Check.rooms(4, 4);
        x.hour(3, 0, 10, 4, 1);
        C.due("nothing SEEN: can(0, 0)", x.can(0, 0), 10);
        C.due("nothing SEEN: can(0, 1)", x.can(0, 1), 0);
        x.give(0, 0);
        x.see(0, 11, false, 0);
        C.due("it COMES behind 11: v 6 to 9", x.can(0, 0), 4);
        C.due("the least", x.can(0, 1), 6);
        x.see(0, 12, true, 0);
        C.due("and not behind 12: v 6 to 8", x.can(0, 0), 3);
        x.see(1, 12, true, 0);
        C.due("somebody in a ROOM that none has", x.can(0, 0), 0);
        C.due("the least: none", x.can(0, 1), -5);
        C.due("of(0, 1) stays", x.of(0, 1), 0);
        C.due("can(1, 0)", x.can(1, 0), -1);
        C.due("can(-1, 0)", x.can(-1, 0), -1);
        C.due("can(0, 2)", x.can(0, 2), -1);
        C.due("can(0, -1)", x.can(0, -1), -1);
        BookedEmpty y = Check.rooms(4);
        y.hour(5, 7, 10, 4, 1);
        y.give(0, 0);
        y.see(0, 10, true, 6);
        y.see(0, 10, false, 1);
        C.due("STANDING on DAY 6: v + 2 is 2, 3, 6", y.can(0, 0), 3);
        y.see(0, 10, false, 2);
        C.due("not on DAY 2: 3, 6", y.can(0, 1), 1);
        Check.office(y, "day 10");
        C.due("behind the end of the day nobody is in", y.can(0, 0), 0);
    }

    private static void where() {
        BookedEmpty x = Check.rooms(1, 9, 9);
        x.hour(0, 0, 10, 4, 9);
        x.hour(4, 4, 10, 4, 9);
        C.due("nothing SEEN, whether it FITS or not", x.where(0), 16 + 7);
        x.see(1, 13, false, 0);
        C.due("nobody is in ROOM 1", x.where(0), 16 + 5);
        x.see(2, 12, true, 3);
        C.due("somebody is in ROOM 2", x.where(0), 4);
        C.due("none can be in both", x.see(0, 12, true, 3), 3);
        C.due("where(0)", x.where(0), 0);
        C.due("of(0, 5) stays", x.of(0, 5), -5);
        x.give(1, 2);
        C.due("another one is in ROOM 2: a CLASH does not matter", x.where(0), 1);
        x.see(-1, 0, true, 0);
        x.see(2, 15, true, 0);
        C.due("OVER is in by its v", x.where(0), 16 + 7);
        C.due("where(1)", x.where(1), 4);
        C.due("where(2)", x.where(2), -1);
        C.due("where(-1)", x.where(-1), -1);
    }

    /** What is SEEN is behind so many DAYS from the DAY on which one asks. */
    private static void later() {
        BookedEmpty x = Check.rooms(4);
        x.hour(5, 0, 10, 4, 1);
        x.give(0, 0);
        x.see(0, 10, true, 2);
        C.due("on DAY 2 it COMES", x.where(0), 1);
        x.pass(1);
        C.due("on DAY 3 it does not", x.where(0), 0);
        C.due("but by v 1", x.can(0, 1), 1);
    }

    private static void odds() {
        BookedEmpty x = Check.rooms(4, 4);
        x.hour(2, 0, 10, 4, 1);
        C.due("odds(0, 0): never", x.odds(0, 0), 0);
        C.due("odds(0, 1)", x.odds(0, 1), 1);
        x.give(0, 0);
        C.due("odds(0, 0): 2 of 40", x.odds(0, 0), 1);
        C.due("odds(0, 1)", x.odds(0, 1), 20);
        Check.office(x, "day 12;hold 3");
        C.due("odds(0, 0): 2 of 12", x.odds(0, 0), 1);
        C.due("odds(0, 1)", x.odds(0, 1), 6);
        Check.office(x, "day 13;hold 3");
        C.due("odds(0, 0): 3 of 13", x.odds(0, 0), 3);
        C.due("odds(0, 1)", x.odds(0, 1), 13);
        C.due("odds(2, 0)", x.odds(2, 0), Long.MIN_VALUE);
        C.due("odds(-1, 0)", x.odds(-1, 0), Long.MIN_VALUE);
        C.due("odds(0, 2)", x.odds(0, 2), Long.MIN_VALUE);
        C.due("odds(0, -1)", x.odds(0, -1), Long.MIN_VALUE);
        BookedEmpty y = Check.rooms(1);
        y.hour(2, 0, 0, 1, 1);
        y.give(0, 0);
        Check.office(y, "day 1");
        C.due("odds(0, 0): always", y.odds(0, 0), 1);
        C.due("odds(0, 1)", y.odds(0, 1), 1);
    }

    private static void mean() {
        BookedEmpty x = Check.rooms(4);
        x.hour(5, 1, 10, 4, 1);
        x.give(0, 0);
        C.due("mean(3, 0): 4 on 3 DAYS", x.mean(3, 0), 4);
        C.due("mean(3, 1)", x.mean(3, 1), 3);
        C.due("mean(20, 0): 26 on 20 DAYS", x.mean(20, 0), 13);
        C.due("mean(20, 1)", x.mean(20, 1), 10);
        C.due("mean(1, 0)", x.mean(1, 0), 0);
        C.due("mean(1, 1)", x.mean(1, 1), 1);
        C.due("mean(0, 0)", x.mean(0, 0), Long.MIN_VALUE);
        C.due("mean(21, 0)", x.mean(21, 0), Long.MIN_VALUE);
        C.due("mean(1, 2)", x.mean(1, 2), Long.MIN_VALUE);
        C.due("mean(1, -1)", x.mean(1, -1), Long.MIN_VALUE);
    }
}
