import java.util.Random;

/** Long runs of calls, the same each time, whose answers are compared with the Model's. */
public final class ModelTest {
    private static final int CALLS = 512;
    private static final Check C = new Check("ModelTest");

    private final Random random;
    private final BookedEmpty x = new BookedEmpty();
    private final Model m = new Model();
    /** How wild numbers are: 1 in so many is not as told. */
    private final int wild;
    private String run;

    private ModelTest(int seed) {
        random = new Random(seed);
        wild = 3 + random.nextInt(40);
        run = "run " + seed;
    }

    public static void main(String[] args) {
        int runs = args.length > 0 ? Integer.parseInt(args[0]) : 60;
        for (int seed = 1; seed <= runs; seed++) {
            new ModelTest(seed).play();
        }
        grammar();
        C.end();
    }

    private void play() {
        int rooms = random.nextInt(5);
        int hours = random.nextInt(7);
        for (int i = 0; i < rooms; i++) {
            room();
        }
        for (int i = 0; i < hours; i++) {
            hour();
        }
        int calls = rooms + hours;
        while (calls < CALLS - 100) {
            calls += step(random.nextInt(45));
        }
    }

    private int to(int most) {
        if (random.nextInt(wild) > 0) {
            return random.nextInt(most + 1);
        }
        int[] odd = {-1, -2, most + 1, most + 2, -14, 99, 1000, Integer.MIN_VALUE, Integer.MAX_VALUE,
            Integer.MAX_VALUE - 1, random.nextInt()};
        return odd[random.nextInt(odd.length)];
    }

    private void due(String call, long got, long want) {
        C.due(run + ": " + call, got, want);
    }

    private void room() {
        int seats = random.nextInt(3) > 0 ? 1 + to(19) : 12 + to(8);
        due("room(" + seats + ")", x.room(seats), m.room(seats));
    }

    private void hour() {
        int kind = to(6);
        int v = to(9);
        int from = random.nextBoolean() ? to(39) : to(15);
        int len = 1 + to(11);
        int people = random.nextBoolean() ? 1 + to(19) : 1 + to(5);
        due("hour(" + kind + ", " + v + ", " + from + ", " + len + ", " + people + ")",
            x.hour(kind, v, from, len, people), m.hour(kind, v, from, len, people));
    }

    private int step(int which) {
        int h = to(5);
        int r = to(3);
        int q = to(39);
        if (which < 5) {
            due("give(" + h + ", " + r + ")", x.give(h, r), m.give(h, r));
            return 1;
        }
        if (which < 15) {
            return hoursAndRooms(which, h, r, q);
        }
        if (which < 24) {
            return asked(which, h, r, q);
        }
        if (which < 33) {
            return told(which, h, r, q);
        }
        return rest(which, h);
    }

    private int hoursAndRooms(int which, int h, int r, int q) {
        switch (which) {
            case 5: {
                int what = random.nextInt(25) - 1;
                due("of(" + h + ", " + what + ")", x.of(h, what), m.of(h, what));
                return 1;
            }
            case 6: {
                int what = to(3);
                due("at(" + r + ", " + what + ")", x.at(r, what), m.at(r, what));
                return 1;
            }
            case 7: {
                boolean is = random.nextBoolean();
                due("fault(" + r + ", " + is + ")", x.fault(r, is), m.fault(r, is));
                return 1;
            }
            case 8: {
                int part = to(3);
                int n = to(9);
                due("row(" + h + ", " + part + ", " + n + ")", x.row(h, part, n), m.row(h, part, n));
                return 1;
            }
            case 9:
                due("inside(" + r + ", " + q + ")", x.inside(r, q), m.inside(r, q));
                return 1;
            case 10:
                due("held(" + r + ", " + q + ")", x.held(r, q), m.held(r, q));
                return 1;
            case 11:
                room();
                return 1;
            case 12:
                hour();
                return 1;
            case 13: {
                int n = random.nextBoolean() ? to(60) : to(4);
                due("pass(" + n + ")", x.pass(n), m.pass(n));
                return 1;
            }
            default:
                return office();
        }
    }

    private int asked(int which, int h, int r, int q) {
        int n = to(20);
        int part = to(1);
        switch (which) {
            case 15:
                due("waste(" + n + ")", x.waste(n), m.waste(n));
                break;
            case 16: {
                int what = random.nextInt(26) + 9;
                due("on(" + n + ", " + what + ")", x.on(n, what), m.on(n, what));
                break;
            }
            case 17: {
                int what = random.nextBoolean() ? random.nextInt(3) : 9 + random.nextInt(8);
                due("most(" + what + ")", x.most(what), m.most(what));
                break;
            }
            case 18: {
                int what = random.nextInt(3) == 0 ? random.nextInt(3) : 9 + random.nextInt(8);
                due("dearest(" + what + ")", x.dearest(what), m.dearest(what));
                break;
            }
            case 19: {
                int what = random.nextInt(4);
                due("best(" + what + ")", x.best(what), m.best(what));
                break;
            }
            case 20:
                due("holds(" + n + ")", x.holds(n), m.holds(n));
                break;
            case 21: {
                int seats = random.nextBoolean() ? to(20) : to(6);
                int long12 = to(12);
                due("sudden(" + seats + ", " + q + ", " + long12 + ")", x.sudden(seats, q, long12),
                    m.sudden(seats, q, long12));
                break;
            }
            case 22:
                due("odds(" + r + ", " + part + ")", x.odds(r, part), m.odds(r, part));
                break;
            default:
                due("mean(" + n + ", " + part + ")", x.mean(n, part), m.mean(n, part));
        }
        return 1;
    }

    private int told(int which, int h, int r, int q) {
        switch (which) {
            case 24: {
                int room = random.nextInt(8) == 0 ? -1 : r;
                boolean is = random.nextInt(3) == 0;
                int n = to(20);
                due("see(" + room + ", " + q + ", " + is + ", " + n + ")", x.see(room, q, is, n), m.see(room, q, is, n));
                break;
            }
            case 25:
            case 26: {
                int what = to(1);
                due("can(" + h + ", " + what + ")", x.can(h, what), m.can(h, what));
                break;
            }
            case 27:
                due("where(" + h + ")", x.where(h), m.where(h));
                break;
            case 28: {
                int what = random.nextInt(10) == 0 ? -1 : to(2);
                int number = random.nextBoolean() ? h : r;
                due("plan(" + what + ", " + number + ")", x.plan(what, number), m.plan(what, number));
                break;
            }
            case 29: {
                int what = to(1);
                due("ends(" + what + ")", x.ends(what), m.ends(what));
                break;
            }
            case 30: {
                int hour = random.nextInt(6) == 0 ? -1 : h;
                int room = to(4);
                due("book(" + hour + ", " + room + ")", x.book(hour, room), m.book(hour, room));
                break;
            }
            case 31: {
                due("looked()", x.looked(), m.looked());
                break;
            }
            default: {
                int what = to(4);
                due("told(" + what + ")", x.told(what), m.told(what));
            }
        }
        return 1;
    }

    private int rest(int which, int h) {
        int tape = to(5);
        int other = to(5);
        int i = random.nextBoolean() ? to(4) : to(60);
        int j = random.nextBoolean() ? to(4) : to(60);
        int n = random.nextBoolean() ? to(4) : to(60);
        switch (which) {
            case 33:
                due("judge(" + tape + ", " + i + ")", x.judge(tape, i), m.judge(tape, i));
                break;
            case 34:
                return justTape(tape);
            case 35:
                due("image()", x.image(), m.image());
                break;
            case 36:
                due("undo()", x.undo(), m.undo());
                break;
            case 37:
            case 38:
                return act(h);
            case 39: {
                int k = to(6);
                due("taken(" + h + ", " + k + ")", x.taken(h, k), m.taken(h, k));
                break;
            }
            case 40: {
                int what = to(7);
                due("count(" + what + ")", x.count(what), m.count(what));
                break;
            }
            case 41: {
                int sort = random.nextInt(7) - 1;
                due("tape(" + tape + ", " + sort + ", " + n + ")", x.tape(tape, sort, n), m.tape(tape, sort, n));
                break;
            }
            case 42: {
                long v = random.nextBoolean() ? random.nextInt(5) : random.nextLong();
                due("item(" + tape + ", " + i + ", " + v + ")", x.item(tape, i, v), m.item(tape, i, v));
                break;
            }
            case 43:
                due("read(" + tape + ", " + i + ")", x.read(tape, i), m.read(tape, i));
                break;
            default:
                due("shift(" + tape + ", " + i + ", " + other + ", " + j + ", " + n + ")",
                    x.shift(tape, i, other, j, n), m.shift(tape, i, other, j, n));
        }
        return 1;
    }

    /** A row of bytes that is nearly as it is. */
    private int justTape(int tape) {
        int i = random.nextInt(3);
        int n = i + random.nextInt(8);
        due("tape(" + tape + ", 0, " + n + ")", x.tape(tape, 0, n), m.tape(tape, 0, n));
        for (int h = 0; h < 6; h++) {
            int room = random.nextInt(12) == 0 ? random.nextInt(5) : m.of(h, 5);
            long v = room < 0 ? 4 : room;
            due("item(" + tape + ", " + (i + h) + ", " + v + ")", x.item(tape, i + h, v), m.item(tape, i + h, v));
        }
        due("judge(" + tape + ", " + i + ")", x.judge(tape, i), m.judge(tape, i));
        return 8;
    }

    private int act(int h) {
        int act = to(2);
        int in = random.nextBoolean() ? random.nextInt() : random.nextInt(10);
        due("act(" + h + ", " + act + ", " + in + ")", x.act(h, act, in), m.act(h, act, in));
        due("count(7)", x.count(7), m.count(7));
        for (int i = 0; i < 4; i++) {
            int at = to(14);
            due("trace(" + at + ")", x.trace(at), m.trace(at));
        }
        return 6;
    }

    private int office() {
        if (m.count(2) == 6 && random.nextInt(4) > 0) {
            return 0;
        }
        String text = Texts.text(random);
        for (int i = 0; i < text.length(); i++) {
            due("feed(" + (int) text.charAt(i) + ")", x.feed(text.charAt(i)), m.feed(text.charAt(i)));
        }
        due("office() of " + text, x.office(), m.office());
        return text.length() + 1;
    }

    /** Many texts, each on a new object; WORTH of those that are right. */
    private static void grammar() {
        Random random = new Random(7);
        for (int n = 0; n < 6000; n++) {
            String text = Texts.text(random);
            BookedEmpty x = Check.rooms(1 + random.nextInt(20), 1 + random.nextInt(20));
            Model m = new Model();
            m.room(x.at(0, 0));
            m.room(x.at(1, 0));
            for (int h = 0; h < 3; h++) {
                int kind = random.nextInt(7);
                int v = random.nextInt(10);
                int people = 1 + random.nextInt(20);
                x.hour(kind, v, h, 1, people);
                m.hour(kind, v, h, 1, people);
            }
            for (int i = 0; i < text.length(); i++) {
                x.feed(text.charAt(i));
                m.feed(text.charAt(i));
            }
            C.due("office() of \"" + text + "\"", x.office(), m.office());
            for (int h = 0; h < 3; h++) {
                C.due("of(" + h + ", 21) by \"" + text + "\"", x.of(h, 21), m.of(h, 21));
            }
            C.due("told(1) by \"" + text + "\"", x.told(1), m.told(1));
            C.due("told(2) by \"" + text + "\"", x.told(2), m.told(2));
        }
    }
}
