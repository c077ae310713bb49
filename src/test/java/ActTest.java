/** Promises 34 to 37: acts, THE TRACE, what one is taken for, how many. */
public final class ActTest {
    private static final Check C = new Check("ActTest");

    public static void main(String[] args) {
        acts();
        wrong();
        taken();
        count();
        C.end();
    }

    /** HOURS 0 .. 5 of the KINDS 1 .. 6 (i is 1 less), v 9 less i. */
    private static BookedEmpty oneOfEach() {
        BookedEmpty x = new BookedEmpty();
        for (int i = 0; i < 6; i++) {
            x.hour(i + 1, 9 - i, 0, 1, 1);
        }
        return x;
    }

    private static void act(BookedEmpty x, int hour, int act, int in, int want, int... trace) {
        String call = "act(" + hour + ", " + act + ", " + in + ")";
        C.due(call, x.act(hour, act, in), want);
        C.due(call + ", how many bodies", x.count(7), trace.length);
        for (int i = 0; i < trace.length; i++) {
            C.due(call + ", trace(" + i + ")", x.trace(i), trace[i]);
        }
        C.due(call + ", behind the TRACE", x.trace(trace.length), -1);
        C.due(call + ", ahead of the TRACE", x.trace(-1), -1);
    }

    private static void acts() {
        BookedEmpty h = new BookedEmpty();
        h.hour(0, 0, 0, 1, 1);
        h.hour(0, 4, 0, 1, 1);
        act(h, 1, 0, 5, 6, 10);
        act(h, 1, 1, 5, 2, 11, 10);
        act(h, 1, 2, 5, 4, 12, 11, 10);
        act(h, 1, 0, Integer.MAX_VALUE, Integer.MIN_VALUE, 10);
        act(h, 1, 2, Integer.MIN_VALUE, -6, 12, 11, 10);
        BookedEmpty x = oneOfEach();
        // BUSY 0, v 9
        act(x, 0, 0, 5, 5, 10);
        act(x, 0, 1, 5, (5 - 9) ^ 6, 20, 11, 10);
        act(x, 0, 2, 5, ((5 - 9) ^ 6) * 2, 12, 20, 11, 10);
        // GHOSTLY 1, v 8
        act(x, 1, 0, 5, 16, 30, 10);
        act(x, 1, 1, 5, 8, 11, 30, 10);
        act(x, 1, 2, 5, 16, 12, 11, 30, 10);
        act(x, 1, 0, 1 << 30, (1 << 30) * 3 + 1, 30, 10);
        // LATE 2, v 7
        act(x, 2, 0, 5, 7, 10);
        act(x, 2, 1, 5, 0, 11, 10);
        act(x, 2, 2, 5, 0 + (3 - 7), 40, 12, 11, 10, 11, 10);
        // OVER 3, v 6
        act(x, 3, 0, 5, -8, 50, 10);
        act(x, 3, 1, 5, (-(6 + 3) - 6) ^ 6, 51, 20, 11, 50, 10);
        act(x, 3, 2, 5, ((-(6 + 3) - 6) ^ 6) * 2, 12, 51, 20, 11, 50, 10);
        // STANDING 4, v 5
        act(x, 4, 0, 5, 19, 30, 10);
        act(x, 4, 1, 5, 14, 11, 30, 10);
        act(x, 4, 2, 5, (3 + 4 - 5) * 2, 60, 12, 11, 30, 10);
        // TOLD 5, v 4
        act(x, 5, 0, 5, 10 ^ 4, 71, 10);
        act(x, 5, 1, 5, (10 ^ 4) - 4 + 7, 70, 11, 71, 10, 10);
        act(x, 5, 2, 5, ((10 ^ 4) - 4 + 7) * 2 + ((6 ^ 4) - 4 + 7),
            40, 12, 70, 11, 71, 10, 10, 70, 11, 71, 10, 10);
    }

    private static void wrong() {
        BookedEmpty x = oneOfEach();
        int[][] wrong = {{6, 0}, {-1, 0}, {0, 3}, {0, -1}, {Integer.MAX_VALUE, Integer.MIN_VALUE}};
        for (int[] w : wrong) {
            x.act(0, 2, 1);
            act(x, w[0], w[1], 5, 0);
            C.due("trace(0), none then", x.trace(0), -1);
        }
        x.act(0, 2, 1);
        C.due("trace(20)", x.trace(20), -1);
        C.due("trace(greatest)", x.trace(Integer.MAX_VALUE), -1);
        C.due("trace(least)", x.trace(Integer.MIN_VALUE), -1);
    }

    private static void taken() {
        BookedEmpty x = oneOfEach();
        int[][] above = {{}, {0}, {0}, {0}, {1, 0}, {2, 0}, {3, 0}};
        for (int hour = 0; hour < 6; hour++) {
            int kind = hour + 1;
            for (int k = 0; k < 7; k++) {
                boolean is = k == kind;
                for (int a : above[kind]) {
                    is |= a == k;
                }
                C.due("taken(" + hour + ", " + k + ")", x.taken(hour, k), is ? kind : -12);
            }
        }
        C.due("taken(6, 0)", x.taken(6, 0), -11);
        C.due("taken(-1, 0)", x.taken(-1, 0), -11);
        C.due("taken(6, 7): BAD goes ahead", x.taken(6, 7), -2);
        C.due("taken(0, 7)", x.taken(0, 7), -2);
        C.due("taken(0, -1)", x.taken(0, -1), -2);
    }

    private static void count() {
        BookedEmpty x = Check.rooms(1, 2, 3);
        x.hour(0, 0, 0, 1, 1);
        x.hour(0, 0, 0, 1, 1);
        Check.office(x, "hold 1");
        Check.feed(x, "like");
        for (int n = 0; n < 5; n++) {
            x.see(0, 0, true, 0);
        }
        for (int n = 0; n < 6; n++) {
            x.plan(0, 0);
        }
        for (int n = 0; n < 7; n++) {
            x.book(0, 0);
        }
        x.act(0, 1, 0);
        int[] want = {2, 3, 1, 5, 6, 7, 4, 2};
        for (int what = 0; what < want.length; what++) {
            C.due("count(" + what + ")", x.count(what), want[what]);
        }
        C.due("count(8)", x.count(8), -2);
        C.due("count(-1)", x.count(-1), -2);
    }
}
