/** Promises 27 to 30: the PLAN and the BOOK. */
public final class PlanBookTest {
    private static final Check C = new Check("PlanBookTest");

    public static void main(String[] args) {
        plan();
        ends();
        book();
        looked();
        C.end();
    }

    private static void plan() {
        BookedEmpty x = Check.rooms(4);
        x.hour(0, 0, 0, 1, 1);
        C.due("plan(3, 0)", x.plan(3, 0), -1);
        C.due("plan(-2, 0)", x.plan(-2, 0), -1);
        C.due("plan(1, 1)", x.plan(1, 1), -1);
        C.due("plan(1, -1)", x.plan(1, -1), -1);
        C.due("plan(2, 1)", x.plan(2, 1), -1);
        C.due("plan(2, -1)", x.plan(2, -1), -1);
        C.due("plan(0, -99)", x.plan(0, -99), 1);
        C.due("plan(1, 0)", x.plan(1, 0), 2);
        for (int n = 3; n <= 8; n++) {
            C.due("plan(2, 0)", x.plan(2, 0), n);
        }
        C.due("plan(0, 0), the ninth", x.plan(0, 0), -4);
        C.due("plan(3, 0), the ninth: NONE goes ahead", x.plan(3, 0), -1);
        C.due("count(4)", x.count(4), 8);
        C.due("plan(-1, 99)", x.plan(-1, 99), 0);
        C.due("count(4), empty", x.count(4), 0);
        C.due("plan(0, 0) again", x.plan(0, 0), 1);
    }

    private static void ends() {
        BookedEmpty x = Check.rooms(9, 9);
        x.hour(5, 0, 10, 5, 1);
        x.hour(2, 0, 20, 5, 1);
        x.give(0, 0);
        x.give(1, 1);
        x.fault(0, true);
        C.due("ends(0), no PLAN: as it is", x.ends(0), 2);
        C.due("ends(1)", x.ends(1), 80 - 7);
        x.plan(0, 0);
        C.due("ends(0), a DAY on", x.ends(0), 4);
        C.due("ends(1)", x.ends(1), 80 - 4);
        x.plan(1, 1);
        C.due("ends(0), without the ghost", x.ends(0), 2);
        C.due("ends(1)", x.ends(1), 80 - 2);
        x.plan(2, 0);
        x.plan(0, 0);
        C.due("ends(0), DAY 2", x.ends(0), 0);
        C.due("ends(1)", x.ends(1), 80 - 5);
        C.due("ends(2)", x.ends(2), -1);
        C.due("ends(-1)", x.ends(-1), -1);
        C.due("it changes nothing: DAY", x.told(0), 0);
        C.due("it changes nothing: the ghost", x.of(1, 5), 1);
        C.due("it changes nothing: the FAULT", x.at(0, 1), 1);
        for (int day = 0; day < 9960; day += 60) {
            x.pass(60);
        }
        x.pass(39);
        x.plan(-1, 0);
        x.plan(0, 0);
        C.due("ends(0) beyond the last DAY", x.ends(0), 2);
        BookedEmpty y = Check.rooms(9);
        y.hour(6, 0, 10, 5, 1);
        y.row(0, 1, 1);
        y.row(0, 3, 2);
        y.give(0, 0);
        int[] want = {0, 1, 0, 2, 0, 1, 0, 2};
        for (int n = 0; n < want.length; n++) {
            C.due("ends(0), TOLD, by " + n + " DAYS", y.ends(0), want[n]);
            y.plan(0, 0);
        }
        y.pass(1);
        C.due("ends(0), eight DAYS from DAY 1 on", y.ends(0), 1);
    }

    private static void book() {
        BookedEmpty x = Check.rooms(4, 4);
        x.hour(0, 0, 0, 1, 1);
        C.due("book(1, 0)", x.book(1, 0), -1);
        C.due("book(-2, 0)", x.book(-2, 0), -1);
        C.due("book(0, 2)", x.book(0, 2), -1);
        C.due("book(0, 5)", x.book(0, 5), -1);
        C.due("book(0, -1)", x.book(0, -1), -1);
        C.due("book(0, 4)", x.book(0, 4), 1);
        for (int n = 2; n <= 8; n++) {
            C.due("book(0, 1)", x.book(0, 1), n);
        }
        C.due("book(0, 0), the ninth", x.book(0, 0), -4);
        C.due("book(0, 3), the ninth: NONE goes ahead", x.book(0, 3), -1);
        C.due("count(5)", x.count(5), 8);
        C.due("book(-1, 99)", x.book(-1, 99), 0);
        C.due("count(5), empty", x.count(5), 0);
    }

    private static void looked() {
        BookedEmpty x = Check.rooms(4, 4);
        x.hour(0, 0, 0, 1, 1);
        x.hour(0, 0, 2, 1, 1);
        C.due("looked(), nothing told", x.looked(), -5);
        x.book(0, 4);
        x.book(1, 4);
        C.due("looked()", x.looked(), -5);
        x.give(1, 0);
        C.due("looked(), the second", x.looked(), 1);
        x.give(0, 1);
        C.due("looked(), the first", x.looked(), 0);
        x.book(-1, 0);
        x.book(0, 1);
        x.book(1, 0);
        x.book(1, 0);
        C.due("looked(), all is so", x.looked(), -5);
        x.book(1, 1);
        x.book(0, 0);
        C.due("looked(), the fourth", x.looked(), 3);
    }
}
