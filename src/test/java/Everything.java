import java.util.ArrayList;
import java.util.List;

/** All that can be asked of an object without changing it, as one row of answers; some 210 calls. */
final class Everything {
    private final BookedEmpty x;
    private final List<String> names = new ArrayList<>();
    private final List<Long> answers = new ArrayList<>();

    private Everything(BookedEmpty x) {
        this.x = x;
        counts();
        for (int h = 0; h < 6; h++) {
            hour(h);
        }
        for (int r = 0; r < 4; r++) {
            for (int what = 0; what < 4; what++) {
                add("at(" + r + ", " + what + ")", x.at(r, what));
            }
        }
        rest();
    }

    static long[] of(BookedEmpty x) {
        return new Everything(x).answers.stream().mapToLong(Long::longValue).toArray();
    }

    /** Which question has the i-th answer. */
    static String name(int i) {
        return new Everything(new BookedEmpty()).names.get(i);
    }

    private void add(String name, long answer) {
        names.add(name);
        answers.add(answer);
    }

    private void counts() {
        for (int what = 0; what <= 7; what++) {
            add("count(" + what + ")", x.count(what));
        }
        for (int what = 0; what <= 4; what++) {
            add("told(" + what + ")", x.told(what));
        }
    }

    private void hour(int h) {
        for (int what = 0; what <= 8; what++) {
            add("of(" + h + ", " + what + ")", x.of(h, what));
        }
        for (int r = 0; r < 4; r++) {
            add("of(" + h + ", " + (10 + r) + ")", x.of(h, 10 + r));
            add("of(" + h + ", " + (20 + r) + ")", x.of(h, 20 + r));
        }
        for (int n = 1; n <= 3; n++) {
            add("on(" + n + ", " + (10 + h) + ")", x.on(n, 10 + h));
        }
        add("can(" + h + ", 0)", x.can(h, 0));
        add("can(" + h + ", 1)", x.can(h, 1));
        add("where(" + h + ")", x.where(h));
    }

    private void rest() {
        add("ends(0)", x.ends(0));
        add("ends(1)", x.ends(1));
        add("looked()", x.looked());
        for (int i = 0; i < 12; i++) {
            add("trace(" + i + ")", x.trace(i));
        }
        for (int tape = 0; tape < 6; tape++) {
            for (int i = 0; i < 4; i++) {
                add("read(" + tape + ", " + i + ")", x.read(tape, i));
            }
        }
    }
}
