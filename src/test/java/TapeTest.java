/** Promises 38 to 41: TAPES. */
public final class TapeTest {
    private static final Check C = new Check("TapeTest");

    public static void main(String[] args) {
        tape();
        item();
        read();
        shift();
        shiftWrong();
        C.end();
    }

    private static void tape() {
        BookedEmpty x = new BookedEmpty();
        C.due("tape(6, 0, 1)", x.tape(6, 0, 1), -1);
        C.due("tape(-1, 9, 99): NONE goes ahead", x.tape(-1, 9, 99), -1);
        C.due("tape(6, -1, 0): NONE goes ahead", x.tape(6, -1, 0), -1);
        C.due("tape(0, 5, 1)", x.tape(0, 5, 1), -2);
        C.due("tape(0, -2, 1)", x.tape(0, -2, 1), -2);
        C.due("tape(0, 5, -1): BAD goes ahead", x.tape(0, 5, -1), -2);
        C.due("tape(0, 0, 61)", x.tape(0, 0, 61), -2);
        C.due("tape(0, 0, -1)", x.tape(0, 0, -1), -14);
        C.due("tape(0, 0, least)", x.tape(0, 0, Integer.MIN_VALUE), -14);
        C.due("it holds nothing yet", x.item(0, 0, 1), -11);
        C.due("tape(0, 3, 60)", x.tape(0, 3, 60), 1);
        C.due("item(0, 59, 9)", x.item(0, 59, 9), 1);
        C.due("item(0, 0, 9)", x.item(0, 0, 9), 1);
        C.due("tape(0, 0, -1)", x.tape(0, 0, -1), -14);
        C.due("it stays", x.read(0, 59), 9);
        C.due("tape(0, 3, 60) anew", x.tape(0, 3, 60), 1);
        C.due("all 0", x.read(0, 59), 0);
        C.due("also the first", x.read(0, 0), 0);
        C.due("tape(0, -1, 99)", x.tape(0, -1, 99), 1);
        C.due("nothing there", x.read(0, 0), Long.MIN_VALUE);
        C.due("nothing there", x.item(0, 0, 0), -11);
        C.due("tape(5, 4, 0)", x.tape(5, 4, 0), 1);
        C.due("an empty row has no place", x.item(5, 0, 1), -13);
    }

    private static void item() {
        BookedEmpty x = new BookedEmpty();
        long[] numbers = {0, 1, 2, -1, 127, 128, 255, 256, 32767, 32768, 65536, 1L << 31, 1L << 32, (1L << 32) + 5,
            Long.MIN_VALUE, Long.MAX_VALUE, -129, 70000};
        for (int sort = 0; sort < 5; sort++) {
            C.due("tape()", x.tape(sort, sort, 2), 1);
            for (long v : numbers) {
                C.due("item(" + sort + ", 1, " + v + ")", x.item(sort, 1, v), 1);
                long[] want = {(byte) v, (short) v, (int) v, v, v == 0 ? 0 : 1};
                C.due("read(" + sort + ", 1)", x.read(sort, 1), want[sort]);
                C.due("read(" + sort + ", 0)", x.read(sort, 0), 0);
            }
            C.due("item(.., 2, 1)", x.item(sort, 2, 1), -13);
            C.due("item(.., -1, 1)", x.item(sort, -1, 1), -13);
        }
        C.due("item(5, 0, 1)", x.item(5, 0, 1), -11);
        C.due("item(5, -1, 1): NOTHING goes ahead", x.item(5, -1, 1), -11);
        C.due("item(6, 0, 1)", x.item(6, 0, 1), -1);
        C.due("item(-1, 0, 1)", x.item(-1, 0, 1), -1);
    }

    private static void read() {
        BookedEmpty x = new BookedEmpty();
        x.tape(2, 3, 3);
        x.item(2, 2, -5);
        C.due("read(2, 2)", x.read(2, 2), -5);
        C.due("read(2, 3)", x.read(2, 3), Long.MIN_VALUE);
        C.due("read(2, -1)", x.read(2, -1), Long.MIN_VALUE);
        C.due("read(1, 0)", x.read(1, 0), Long.MIN_VALUE);
        C.due("read(6, 0)", x.read(6, 0), Long.MIN_VALUE);
        C.due("read(-1, 0)", x.read(-1, 0), Long.MIN_VALUE);
    }

    private static BookedEmpty counted(int tape, int n) {
        BookedEmpty x = new BookedEmpty();
        x.tape(tape, 2, n);
        for (int i = 0; i < n; i++) {
            x.item(tape, i, i + 1);
        }
        return x;
    }

    private static void holds(BookedEmpty x, int tape, int... want) {
        for (int i = 0; i < want.length; i++) {
            C.due("read(" + tape + ", " + i + ")", x.read(tape, i), want[i]);
        }
        C.due("its length", x.read(tape, want.length), Long.MIN_VALUE);
    }

    private static void shift() {
        BookedEmpty x = counted(0, 5);
        C.due("forth in itself", x.shift(0, 0, 0, 1, 4), 4);
        holds(x, 0, 1, 1, 2, 3, 4);
        x = counted(0, 5);
        C.due("back in itself", x.shift(0, 2, 0, 0, 3), 3);
        holds(x, 0, 3, 4, 5, 4, 5);
        x.tape(1, 2, 4);
        C.due("to another", x.shift(0, 1, 1, 2, 2), 2);
        holds(x, 1, 0, 0, 4, 5);
        holds(x, 0, 3, 4, 5, 4, 5);
        C.due("none, at both ends", x.shift(0, 5, 1, 4, 0), 0);
        C.due("all of one", x.shift(1, 0, 0, 1, 4), 4);
        holds(x, 0, 3, 0, 0, 4, 5);
        for (int sort = 0; sort < 5; sort++) {
            x.tape(2, sort, 2);
            x.tape(3, sort, 2);
            x.item(2, 0, 1);
            C.due("of sort " + sort, x.shift(2, 0, 3, 1, 1), 1);
            holds(x, 3, 0, 1);
        }
    }

    private static void shiftWrong() {
        BookedEmpty x = counted(0, 5);
        x.tape(1, 2, 3);
        x.tape(2, 3, 9);
        int[][] calls = {
            {6, 0, 0, 0, 1, -1}, {0, 0, 6, 0, 1, -1}, {-1, 0, 0, 0, 1, -1}, {0, 0, -1, 0, 1, -1}, {5, 0, 6, 0, 1, -1},
            {5, 0, 0, 0, 1, -11}, {0, 0, 5, 0, 1, -11}, {5, 0, 5, 0, 1, -11}, {2, -1, 5, 0, 1, -11},
            {0, 0, 2, 0, 1, -12}, {2, 0, 0, 0, 1, -12}, {0, -1, 2, 0, 1, -12},
            {0, -1, 1, 0, 1, -13}, {0, 0, 1, -1, 1, -13}, {0, 0, 1, 0, -1, -13}, {0, 4, 1, 0, 2, -13},
            {0, 0, 1, 2, 2, -13}, {0, 6, 1, 0, 0, -13}, {0, 0, 1, 4, 0, -13},
            {0, Integer.MAX_VALUE, 1, 0, 1, -13}, {0, 1, 1, 0, Integer.MAX_VALUE, -13},
            {0, 0, 1, Integer.MAX_VALUE, 1, -13}, {0, Integer.MIN_VALUE, 1, 0, Integer.MIN_VALUE, -13},
        };
        for (int[] c : calls) {
            C.due("shift(" + c[0] + ", " + c[1] + ", " + c[2] + ", " + c[3] + ", " + c[4] + ")",
                x.shift(c[0], c[1], c[2], c[3], c[4]), c[5]);
        }
        holds(x, 0, 1, 2, 3, 4, 5);
        holds(x, 1, 0, 0, 0);
    }
}
