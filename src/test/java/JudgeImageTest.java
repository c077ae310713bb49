/** Promises 31 to 33: judging and THE IMAGE. */
public final class JudgeImageTest {
    private static final Check C = new Check("JudgeImageTest");

    public static void main(String[] args) {
        judge();
        image();
        anewBehindUndo();
        office();
        rest();
        C.end();
    }

    private static void judge() {
        BookedEmpty x = Check.rooms(4, 4);
        C.due("judge(6, 0)", x.judge(6, 0), -1);
        C.due("judge(-1, 0)", x.judge(-1, 0), -1);
        C.due("none to look at", x.judge(0, 0), -5);
        x.hour(0, 0, 0, 1, 1);
        x.hour(0, 0, 2, 1, 1);
        x.hour(0, 0, 4, 1, 1);
        x.give(0, 1);
        x.give(2, 0);
        C.due("nothing is held", x.judge(0, 0), 100);
        for (int sort = 1; sort <= 4; sort++) {
            x.tape(1, sort, 5);
            C.due("judge(1, 0), of sort " + sort, x.judge(1, 0), -12);
            C.due("judge(1, -1): CAST goes ahead", x.judge(1, -1), -12);
        }
        x.tape(0, 0, 5);
        int[] row = {0, 1, 4, 0, 1};
        for (int i = 0; i < row.length; i++) {
            x.item(0, i, row[i]);
        }
        C.due("judge(0, 1): all is so", x.judge(0, 1), -5);
        C.due("judge(0, 0): the first", x.judge(0, 0), 0);
        C.due("judge(0, 4): one looked at", x.judge(0, 4), 101);
        C.due("judge(0, 5): none looked at", x.judge(0, 5), 100);
        C.due("judge(0, 6)", x.judge(0, 6), 100);
        C.due("judge(0, -1)", x.judge(0, -1), 100);
        C.due("judge(0, greatest)", x.judge(0, Integer.MAX_VALUE), 100);
        C.due("judge(0, least)", x.judge(0, Integer.MIN_VALUE), 100);
        x.item(0, 3, 4);
        C.due("judge(0, 1): the last", x.judge(0, 1), 2);
        x.item(0, 2, 256 + 4);
        C.due("bytes are cut, so the second is so", x.judge(0, 1), 2);
        x.give(1, 0);
        C.due("judge(0, 1): the second", x.judge(0, 1), 1);
        x.tape(2, 0, 0);
        C.due("an empty row", x.judge(2, 0), 100);
    }

    private static void image() {
        BookedEmpty x = Check.rooms(4, 4);
        C.due("undo(), no IMAGE", x.undo(), -3);
        x.hour(6, 0, 0, 1, 1);
        x.row(0, 0, 4);
        x.row(0, 2, 7);
        x.row(0, 3, 6);
        x.give(0, 1);
        x.fault(0, true);
        x.pass(5);
        x.see(0, 0, false, 0);
        x.plan(0, 0);
        x.plan(0, 0);
        x.book(0, 1);
        x.book(0, 1);
        x.book(0, 0);
        C.due("image()", x.image(), 1);
        x.room(9);
        x.hour(0, 0, 5, 1, 1);
        x.row(0, 0, 1);
        x.row(0, 2, 1);
        x.row(0, 3, 1);
        x.give(0, 0);
        x.fault(0, false);
        x.pass(1);
        x.see(-1, 0, false, 0);
        x.see(1, 1, true, 1);
        x.plan(-1, 0);
        x.book(-1, 0);
        x.book(0, 1);
        for (int i = 0; i < 2; i++) {
            C.due("undo()", x.undo(), 1);
            C.due("count(0)", x.count(0), 1);
            C.due("count(1)", x.count(1), 2);
            C.due("count(3)", x.count(3), 1);
            C.due("count(4)", x.count(4), 2);
            C.due("count(5)", x.count(5), 3);
            C.due("told(0)", x.told(0), 5);
            C.due("of(0, 5)", x.of(0, 5), 1);
            C.due("at(0, 1)", x.at(0, 1), 1);
            C.due("looked()", x.looked(), 2);
            C.due("where(0): ROOM 1 is SEEN no more", x.where(0), 16 + 2);
            C.due("row(0, 0, 3)", x.row(0, 0, 3), 4);
            C.due("row(0, 2, 3)", x.row(0, 2, 3), 7);
            C.due("row(0, 3, 3)", x.row(0, 3, 3), 6);
            x.give(0, -1);
            x.pass(60);
        }
        C.due("image() anew", x.image(), 1);
        x.hour(0, 0, 5, 1, 1);
        C.due("image() of more", x.image(), 2);
        C.due("undo() to the newest", x.undo(), 2);
        C.due("told(0) of the newest", x.told(0), 65);
    }

    /** What comes behind undo() has nothing of what was there. */
    private static void anewBehindUndo() {
        BookedEmpty x = new BookedEmpty();
        C.due("image()", x.image(), 0);
        x.room(4);
        x.fault(0, true);
        x.hour(6, 9, 0, 1, 1);
        x.row(0, 0, 9);
        x.give(0, 0);
        C.due("undo()", x.undo(), 0);
        C.due("at(0, 0)", x.at(0, 0), -1);
        C.due("room(5)", x.room(5), 0);
        C.due("at(0, 1)", x.at(0, 1), 0);
        C.due("hour()", x.hour(6, 0, 0, 1, 1), 0);
        C.due("of(0, 5)", x.of(0, 5), -5);
        C.due("of(0, 6)", x.of(0, 6), 0);
    }

    private static void office() {
        BookedEmpty x = Check.rooms(4);
        x.hour(0, 0, 0, 1, 1);
        x.image();
        Check.office(x, "hold 7;like 5 h=0");
        x.undo();
        C.due("none held: HOLD", x.told(1), 2);
        C.due("none held: WORTH", x.of(0, 20), 10);
        C.due("count(2) stays", x.count(2), 1);
        C.due("the next", Check.office(x, "hold 8;day 30;like 6 h=0"), 1);
        x.image();
        C.due("the next", Check.office(x, "hold 9;day 20"), 2);
        Check.feed(x, "abc");
        x.undo();
        C.due("which held: HOLD", x.told(1), 8);
        C.due("which held: QUARTERS", x.told(2), 30);
        C.due("which held: WORTH", x.of(0, 20), 16);
        C.due("THE TEXT stays", x.count(6), 3);
    }

    private static void rest() {
        BookedEmpty x = Check.rooms(4);
        x.hour(0, 0, 0, 1, 1);
        x.image();
        x.tape(3, 2, 4);
        x.item(3, 1, 77);
        x.act(0, 2, 1);
        x.undo();
        C.due("tapes stay", x.read(3, 1), 77);
        C.due("the TRACE stays", x.trace(2), 10);
    }
}
