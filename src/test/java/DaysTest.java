/** Promises 14 to 16: DAYS. */
public final class DaysTest {
    private static final Check C = new Check("DaysTest");

    public static void main(String[] args) {
        pass();
        waste();
        on();
        C.end();
    }

    private static void pass() {
        BookedEmpty x = new BookedEmpty();
        C.due("pass(-1)", x.pass(-1), -2);
        C.due("pass(61)", x.pass(61), -2);
        C.due("pass(0)", x.pass(0), 0);
        C.due("pass(60)", x.pass(60), 60);
        for (int day = 120; day <= 9960; day += 60) {
            C.due("pass(60)", x.pass(60), day);
        }
        C.due("pass(40): above 9999", x.pass(40), -3);
        C.due("pass(61): BAD goes ahead", x.pass(61), -2);
        C.due("told(0) stays", x.told(0), 9960);
        C.due("pass(39)", x.pass(39), 9999);
        C.due("pass(1)", x.pass(1), -3);
        C.due("pass(0) at the end", x.pass(0), 9999);
    }

    /** A STANDING one, v 0: every other DAY; HOLD 2, so that 2 quarters are EMPTY on the DAYS between. */
    private static BookedEmpty everyOther() {
        BookedEmpty x = Check.rooms(5, 5);
        x.hour(5, 0, 10, 6, 1);
        x.hour(2, 0, 39, 6, 1);
        x.give(0, 0);
        x.give(1, 1);
        return x;
    }

    private static void waste() {
        BookedEmpty x = everyOther();
        C.due("waste(-1)", x.waste(-1), -2);
        C.due("waste(31)", x.waste(31), -2);
        C.due("waste(0)", x.waste(0), 0);
        C.due("waste(1): the ghost's last quarter", x.waste(1), 1);
        C.due("waste(2)", x.waste(2), 1 + 3);
        C.due("waste(30)", x.waste(30), 15 * 4);
        x.pass(1);
        C.due("waste(1) a DAY on", x.waste(1), 3);
        C.due("it changes nothing", x.told(0), 1);
        for (int day = 61; day <= 9961; day += 60) {
            x.pass(60);
        }
        x.pass(38);
        C.due("told(0)", x.told(0), 9999);
        C.due("waste(1) on the last DAY", x.waste(1), 3);
        C.due("waste(2) goes beyond", x.waste(2), 4);
        C.due("on(1, 10) goes beyond", x.on(1, 10), 10);
        C.due("on(60, 10) goes beyond", x.on(60, 10), -5);
        x.give(0, -1);
        x.give(1, -1);
        C.due("waste(30), nobody has a ROOM", x.waste(30), 0);
        BookedEmpty y = Check.rooms(5);
        y.hour(6, 0, 10, 6, 1);
        y.row(0, 1, 1);
        y.row(0, 2, 2);
        y.give(0, 0);
        y.pass(3);
        int[] want = {0, 0, 0, 1, 3, 3};
        for (int n = 0; n < want.length; n++) {
            C.due("a TOLD one, DAYS 3, 4, 5 ..: waste(" + n + ")", y.waste(n), want[n]);
        }
    }

    private static void on() {
        BookedEmpty x = everyOther();
        x.pass(2);
        C.due("on(0, 10)", x.on(0, 10), 10);
        C.due("on(1, 10)", x.on(1, 10), -5);
        C.due("on(0, 11)", x.on(0, 11), -5);
        C.due("on(0, 20)", x.on(0, 20), 0);
        C.due("on(1, 20)", x.on(1, 20), 2);
        C.due("on(60, 21)", x.on(60, 21), 1);
        C.due("on(0, 30)", x.on(0, 30), 34);
        C.due("on(1, 30)", x.on(1, 30), 38);
        C.due("on(1, 31)", x.on(1, 31), 39);
        C.due("on(61, 10)", x.on(61, 10), -2);
        C.due("on(-1, 31)", x.on(-1, 31), -2);
        int[] none = {-1, 0, 9, 12, 16, 19, 22, 24, 29, 32, 34, Integer.MIN_VALUE, Integer.MAX_VALUE};
        for (int what : none) {
            C.due("on(0, " + what + ")", x.on(0, what), -1);
            C.due("on(61, " + what + "): NONE goes ahead", x.on(61, what), -1);
        }
    }
}
