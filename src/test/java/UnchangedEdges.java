import java.util.ArrayList;
import java.util.List;
import java.util.function.ToLongFunction;

/** What is answered by a refusal changes nothing; what is asked changes nothing. */
final class UnchangedEdges {
    private static final int NONE = -1, BAD = -2, STATE = -3, FULL = -4;
    private static final int NOTHING = -11, CAST = -12, PLACE = -13, SIZE = -14;
    private static final long NO = Long.MIN_VALUE;

    private record Call(String name, ToLongFunction<BookedEmpty> call, long want) {
    }

    private final Sentences s;
    private final List<Call> calls = new ArrayList<>();

    private UnchangedEdges(Sentences s) {
        this.s = s;
    }

    static void all(Sentences s) {
        UnchangedEdges e = new UnchangedEdges(s);
        e.s.says("Terms 3", "What is answered so changes nothing;");
        e.refusedHours();
        e.refusedRest();
        e.refusedTapes();
        e.compare();
        e.refusedWithoutImage();
        e.refusedDays();
        e.refusedOffice();
        e.calls.clear();
        e.s.says("Terms 3", "what is asked changes nothing.");
        e.asked();
        e.compare();
    }

    /** An object in which all is full that can be full, an IMAGE that is another, and a TEXT that is right. */
    private static BookedEmpty full() {
        BookedEmpty x = Check.rooms(5, 20, 20);
        for (int kind = 1; kind <= 6; kind++) {
            x.hour(kind, kind + 1, kind * 5, kind, kind + 2);
        }
        x.row(5, 1, 4);
        for (int h = 1; h < 6; h++) {
            x.give(h, 1);
        }
        x.image();
        x.room(9);
        x.fault(0, true);
        x.row(5, 2, 3);
        x.give(2, 3);
        x.pass(5);
        for (int n = 1; n <= 6; n++) {
            x.see(0, n, false, n);
        }
        for (int n = 0; n < 4; n++) {
            x.plan(0, 0);
            x.plan(1, n);
        }
        for (int n = 0; n < 8; n++) {
            x.book(0, 4);
        }
        Check.office(x, "like 3 h=1;hold 4;day 37");
        Check.feed(x, "like 7 h=1&k=2;hold 6");
        x.tape(1, 2, 3);
        x.item(1, 0, 5);
        x.item(1, 2, 6);
        x.tape(2, 0, 2);
        x.act(5, 2, 3);
        return x;
    }

    private void call(String name, long want, ToLongFunction<BookedEmpty> call) {
        calls.add(new Call(name, call, want));
    }

    private void refusedHours() {
        call("room(0)", BAD, x -> x.room(0));
        call("room(5)", FULL, x -> x.room(5));
        call("hour(7, ..)", NONE, x -> x.hour(7, 0, 0, 1, 1));
        call("hour(0, 10, ..)", BAD, x -> x.hour(0, 10, 0, 1, 1));
        call("hour()", FULL, x -> x.hour(0, 0, 0, 1, 1));
        call("of(6, 0)", -1001, x -> x.of(6, 0));
        call("at(4, 0)", NONE, x -> x.at(4, 0));
        call("fault(4, true)", NONE, x -> x.fault(4, true));
        call("row(6, 0, 1)", NONE, x -> x.row(6, 0, 1));
        call("row(5, 4, 1)", NONE, x -> x.row(5, 4, 1));
        call("row(5, 0, 10)", BAD, x -> x.row(5, 0, 10));
        call("row(2, 0, 1)", STATE, x -> x.row(2, 0, 1));
        call("give(6, 1)", NONE, x -> x.give(6, 1));
        call("give(1, 4)", NONE, x -> x.give(1, 4));
        call("give(1, -2)", NONE, x -> x.give(1, -2));
        call("give(3, 0): it does not FIT", STATE, x -> x.give(3, 0));
        call("inside(4, 0)", NONE, x -> x.inside(4, 0));
        call("held(0, 40)", NONE, x -> x.held(0, 40));
        call("feed(128)", BAD, x -> x.feed(128));
        call("feed(-1)", BAD, x -> x.feed(-1));
        call("told(5)", NONE, x -> x.told(5));
    }

    private void refusedRest() {
        call("pass(61)", BAD, x -> x.pass(61));
        call("pass(-1)", BAD, x -> x.pass(-1));
        call("waste(31)", BAD, x -> x.waste(31));
        call("on(61, 10)", BAD, x -> x.on(61, 10));
        call("on(0, 9)", NONE, x -> x.on(0, 9));
        call("most(2)", NONE, x -> x.most(2));
        call("dearest(1)", NONE, x -> x.dearest(1));
        call("best(3)", NONE, x -> x.best(3));
        call("holds(0)", BAD, x -> x.holds(0));
        call("sudden(0, 0, 1)", BAD, x -> x.sudden(0, 0, 1));
        call("see(4, 0, true, 0)", NONE, x -> x.see(4, 0, true, 0));
        call("see(0, 40, true, 0)", NONE, x -> x.see(0, 40, true, 0));
        call("see(0, 0, true, 21)", BAD, x -> x.see(0, 0, true, 21));
        call("see(0, 0, true, 0)", FULL, x -> x.see(0, 0, true, 0));
        call("can(6, 0)", NONE, x -> x.can(6, 0));
        call("where(6)", NONE, x -> x.where(6));
        call("odds(4, 0)", NO, x -> x.odds(4, 0));
        call("mean(0, 0)", NO, x -> x.mean(0, 0));
        call("plan(3, 0)", NONE, x -> x.plan(3, 0));
        call("plan(1, 6)", NONE, x -> x.plan(1, 6));
        call("plan(2, 4)", NONE, x -> x.plan(2, 4));
        call("plan(1, 5)", FULL, x -> x.plan(1, 5));
        call("ends(2)", NONE, x -> x.ends(2));
        call("book(6, 0)", NONE, x -> x.book(6, 0));
        call("book(0, 5)", NONE, x -> x.book(0, 5));
        call("book(0, 3)", FULL, x -> x.book(0, 3));
        call("judge(6, 0)", NONE, x -> x.judge(6, 0));
        call("judge(1, 0)", CAST, x -> x.judge(1, 0));
    }

    private void refusedTapes() {
        call("trace(20)", NONE, x -> x.trace(20));
        call("taken(0, 7)", BAD, x -> x.taken(0, 7));
        call("taken(6, 0)", NOTHING, x -> x.taken(6, 0));
        call("taken(0, 2)", CAST, x -> x.taken(0, 2));
        call("count(8)", BAD, x -> x.count(8));
        call("tape(6, 0, 1)", NONE, x -> x.tape(6, 0, 1));
        call("tape(1, 5, 1)", BAD, x -> x.tape(1, 5, 1));
        call("tape(1, 0, 61)", BAD, x -> x.tape(1, 0, 61));
        call("tape(1, 0, -1)", SIZE, x -> x.tape(1, 0, -1));
        call("item(6, 0, 9)", NONE, x -> x.item(6, 0, 9));
        call("item(0, 0, 9)", NOTHING, x -> x.item(0, 0, 9));
        call("item(1, 3, 9)", PLACE, x -> x.item(1, 3, 9));
        call("item(1, -1, 9)", PLACE, x -> x.item(1, -1, 9));
        call("read(1, 3)", NO, x -> x.read(1, 3));
        call("shift(6, 0, 1, 0, 1)", NONE, x -> x.shift(6, 0, 1, 0, 1));
        call("shift(0, 0, 1, 0, 1)", NOTHING, x -> x.shift(0, 0, 1, 0, 1));
        call("shift(1, 0, 2, 0, 1)", CAST, x -> x.shift(1, 0, 2, 0, 1));
        call("shift(1, 0, 1, 1, 3)", PLACE, x -> x.shift(1, 0, 1, 1, 3));
        call("shift(1, 1, 1, 0, 3)", PLACE, x -> x.shift(1, 1, 1, 0, 3));
        call("shift(1, 2, 1, 0, -1)", PLACE, x -> x.shift(1, 2, 1, 0, -1));
    }

    private void asked() {
        call("of(1, 8)", 2, x -> x.of(1, 8));
        call("at(1, 0)", 20, x -> x.at(1, 0));
        call("inside(0, 0)", 0, x -> x.inside(0, 0));
        call("held(1, 10)", 2, x -> x.held(1, 10));
        call("told(0)", 5, x -> x.told(0));
        call("waste(0)", 0, x -> x.waste(0));
        call("waste(30)", full().waste(30), x -> x.waste(30));
        call("on(60, 11)", -5, x -> x.on(60, 11));
        call("most(0)", 6, x -> x.most(0));
        call("most(10)", full().most(10), x -> x.most(10));
        call("dearest(0)", full().dearest(0), x -> x.dearest(0));
        call("best(0)", full().best(0), x -> x.best(0));
        call("best(1)", 0, x -> x.best(1));
        call("best(2)", -5, x -> x.best(2));
        call("holds(20)", full().holds(20), x -> x.holds(20));
        call("sudden(1, 0, 1)", 3, x -> x.sudden(1, 0, 1));
        call("can(5, 0)", 10, x -> x.can(5, 0));
        call("where(5)", 31, x -> x.where(5));
        call("odds(0, 1)", 1, x -> x.odds(0, 1));
        call("mean(20, 0)", full().mean(20, 0), x -> x.mean(20, 0));
        call("ends(0)", full().ends(0), x -> x.ends(0));
        call("looked()", -5, x -> x.looked());
        call("judge(2, 0)", 0, x -> x.judge(2, 0));
        call("trace(0)", 40, x -> x.trace(0));
        call("taken(5, 0)", 6, x -> x.taken(5, 0));
        call("count(0)", 6, x -> x.count(0));
        call("read(1, 2)", 6, x -> x.read(1, 2));
    }

    /** Each call on objects of its own: all that can be asked, THE TEXT, and THE IMAGE are as without the call. */
    private void compare() {
        long[] now = Everything.of(full());
        long[] byText = byText(full());
        long[] byImage = byImage(full());
        for (Call c : calls) {
            BookedEmpty x = full();
            s.due(c.name, c.call.applyAsLong(x), c.want);
            alike(c.name, now, Everything.of(x));
            x = full();
            c.call.applyAsLong(x);
            alike(c.name + ", THE TEXT", byText, byText(x));
            x = full();
            c.call.applyAsLong(x);
            alike(c.name + ", THE IMAGE", byImage, byImage(x));
        }
    }

    private static long[] byText(BookedEmpty x) {
        return new long[] {x.office(), x.told(1), x.told(2), x.of(1, 21), x.of(2, 21), x.count(6)};
    }

    private static long[] byImage(BookedEmpty x) {
        x.undo();
        return Everything.of(x);
    }

    private void alike(String call, long[] want, long[] got) {
        for (int i = 0; i < want.length; i++) {
            if (want[i] != got[i]) {
                s.due(call + ", then " + (want.length < 10 ? "answer " + i : Everything.name(i)), got[i], want[i]);
            }
        }
        s.due(call + ": so many answers", got.length, want.length);
    }

    /** One ROOM, an HOUR that has it, and one that would CLASH with that. */
    private static BookedEmpty clashing() {
        BookedEmpty x = Check.rooms(20);
        x.hour(0, 0, 10, 2, 1);
        x.give(0, 0);
        x.hour(0, 0, 11, 2, 1);
        return x;
    }

    private void refusedWithoutImage() {
        long[] before = Everything.of(clashing());
        BookedEmpty x = clashing();
        s.due("undo()", x.undo(), STATE);
        alike("undo()", before, Everything.of(x));
        x = clashing();
        s.due("give(1, 0): it CLASHES", x.give(1, 0), STATE);
        alike("give(1, 0)", before, Everything.of(x));
    }

    private void refusedDays() {
        BookedEmpty x = new BookedEmpty();
        for (int n = 0; n < 166; n++) {
            x.pass(60);
        }
        s.due("pass(40)", x.pass(40), STATE);
        s.due("told(0)", x.told(0), 9960);
        s.due("pass(39)", x.pass(39), 9999);
        s.due("pass(1)", x.pass(1), STATE);
        s.due("told(0)", x.told(0), 9999);
    }

    private void refusedOffice() {
        BookedEmpty x = new BookedEmpty();
        for (int n = 1; n <= 6; n++) {
            Check.office(x, "hold " + n);
        }
        Check.feed(x, "day 12");
        s.due("office()", x.office(), FULL);
        s.due("told(1): the sixth holds", x.told(1), 6);
        s.due("told(2)", x.told(2), 40);
        s.due("count(2)", x.count(2), 6);
        s.due("count(6): THE TEXT stays", x.count(6), 6);
        for (int n = 7; n <= 100; n++) {
            x.feed(' ');
        }
        s.due("feed()", x.feed('1'), FULL);
        s.due("count(6)", x.count(6), 100);
    }
}
