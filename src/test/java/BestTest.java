/** Promises 17 to 21: what is best. */
public final class BestTest {
    private static final Check C = new Check("BestTest");

    public static void main(String[] args) {
        most();
        mostWorth();
        dearest();
        roomy();
        more();
        mend();
        mostAheadOfDearest();
        holds();
        sudden();
        suddenOrder();
        C.end();
    }

    private static void way(BookedEmpty x, boolean most, int... rooms) {
        for (int h = 0; h < rooms.length; h++) {
            C.due((most ? "most" : "dearest") + "(" + (10 + h) + ")", most ? x.most(10 + h) : x.dearest(10 + h), rooms[h]);
        }
    }

    private static void most() {
        BookedEmpty x = Check.rooms(4, 8);
        x.hour(0, 0, 0, 6, 4);
        x.hour(0, 0, 3, 6, 4);
        x.hour(0, 0, 5, 6, 8);
        x.hour(0, 0, 20, 2, 9);
        x.hour(1, 0, 30, 2, 2);
        C.due("most(0)", x.most(0), 3);
        C.due("most(1)", x.most(1), 30);
        way(x, true, 0, 1, -5, -5, 0);
        x.fault(0, true);
        way(x, true, 0, 1, -5, -5, 1);
        C.due("most(-1)", x.most(-1), -1);
        C.due("most(2)", x.most(2), -1);
        C.due("most(9)", x.most(9), -1);
        C.due("most(15)", x.most(15), -1);
        C.due("most(greatest)", x.most(Integer.MAX_VALUE), -1);
        C.due("most(least)", x.most(Integer.MIN_VALUE), -1);
        C.due("nobody has a ROOM by that", x.told(3), 0);
        x.give(2, 1);
        C.due("what all have is not looked at", x.most(11), 1);
        BookedEmpty empty = Check.rooms(1);
        C.due("no HOURS: most(0)", empty.most(0), 0);
        C.due("no HOURS: most(1)", empty.most(1), 0);
        C.due("no HOURS: most(10)", empty.most(10), -1);
        BookedEmpty none = new BookedEmpty();
        none.hour(0, 0, 0, 1, 1);
        C.due("no ROOMS: most(0)", none.most(0), 0);
        C.due("no ROOMS: most(10)", none.most(10), -5);
    }

    private static void mostWorth() {
        BookedEmpty x = Check.rooms(5, 5);
        x.hour(0, 0, 0, 9, 1);
        x.hour(0, 0, 5, 2, 1);
        x.hour(0, 0, 8, 9, 1);
        x.hour(0, 0, 5, 9, 1);
        Check.office(x, "like 90 h=3&r=1;like 2 h=1&r=0;mind 9 h=0&r=0");
        C.due("three, of that those of the greatest WORTH", x.most(0), 3);
        C.due("most(1)", x.most(1), 12 + 10 + 100);
        way(x, true, -5, 0, 0, 1);
        C.due("dearest(0)", x.dearest(0), 122);
        way(x, false, -5, 0, 0, 1);
        Check.office(x, "mind 10 h<9");
        C.due("WORTH 0", x.most(1), 0);
        way(x, true, 0, 1, 1, -5);
    }

    private static void dearest() {
        BookedEmpty x = Check.rooms(5, 5);
        x.hour(0, 0, 0, 4, 1);
        x.hour(0, 0, 0, 4, 1);
        x.hour(0, 0, 0, 4, 1);
        C.due("dearest(0)", x.dearest(0), 20);
        way(x, false, 0, 1, -5);
        Check.office(x, "like 5 h>0");
        C.due("dearest(0), the later ones", x.dearest(0), 30);
        way(x, false, -5, 0, 1);
        Check.office(x, "mind 99 h<9");
        C.due("dearest(0), none is worth more than 0", x.dearest(0), 0);
        way(x, false, 0, 1, -5);
        C.due("dearest(1)", x.dearest(1), -1);
        C.due("dearest(-1)", x.dearest(-1), -1);
        C.due("dearest(13)", x.dearest(13), -1);
        C.due("dearest(9)", x.dearest(9), -1);
        BookedEmpty one = Check.rooms(5);
        one.hour(0, 0, 0, 12, 1);
        one.hour(0, 0, 0, 2, 1);
        one.hour(0, 0, 4, 2, 1);
        Check.office(one, "like 20 h=0");
        C.due("one that is dearer than two", one.dearest(0), 30);
        C.due("but two are more", one.most(0), 2);
        C.due("and of less WORTH", one.most(1), 20);
        Check.office(one, "day 1");
        C.due("behind the end of the day none CLASHES", one.most(0), 2);
    }

    private static void roomy() {
        BookedEmpty x = Check.rooms(4, 8, 8, 20);
        C.due("no HOURS: best(0)", x.best(0), 0);
        x.hour(0, 0, 0, 4, 5);
        C.due("the first that is large enough", x.best(0), 2);
        x.hour(0, 0, 0, 4, 3);
        C.due("two at once: the least as bits", x.best(0), 3);
        x.hour(0, 0, 8, 4, 9);
        C.due("one of them for the large one", x.best(0), 9);
        x.hour(0, 0, 0, 4, 9);
        C.due("three ROOMS, of six sets the least", x.best(0), 8 + 2 + 1);
        C.due("best(-1)", x.best(-1), -1);
        C.due("best(3)", x.best(3), -1);
        BookedEmpty none = new BookedEmpty();
        none.hour(0, 0, 0, 1, 1);
        C.due("no ROOMS: best(0)", none.best(0), 0);
        C.due("no ROOMS: best(1)", none.best(1), 1);
        C.due("no ROOMS: best(2)", none.best(2), -5);
    }

    private static void more() {
        BookedEmpty x = Check.rooms(1, 1, 1, 1);
        x.hour(1, 0, 0, 4, 20);
        C.due("best(1), a fifth ROOM", x.best(1), 1);
        x.hour(4, 0, 4, 4, 20);
        x.hour(0, 0, 3, 2, 19);
        C.due("best(1), one CLASHES with both", x.best(1), 2);
        x.hour(0, 0, 20, 4, 1);
        C.due("one that has a ROOM as it is", x.best(1), 2);
        C.due("it is not there", x.count(1), 4);
        x.fault(0, true);
        x.fault(3, true);
        C.due("it has no FAULT", x.best(1), 2);
        C.due("best(2)", x.best(2), -5);
    }

    private static void mend() {
        BookedEmpty x = Check.rooms(2, 9, 9, 9);
        for (int r = 0; r < 4; r++) {
            x.fault(r, true);
        }
        x.hour(1, 0, 0, 4, 5);
        C.due("the first that helps", x.best(2), 1);
        x.hour(4, 0, 20, 4, 2);
        C.due("ROOM 1 helps two", x.best(2), 1);
        x.hour(4, 0, 10, 4, 10);
        C.due("one too many PEOPLE for all", x.best(2), 1);
        C.due("at(1, 1): the FAULT stays", x.at(1, 1), 1);
        x.fault(2, false);
        C.due("all that can be helped are", x.best(2), -5);
        x.hour(1, 0, 21, 4, 2);
        C.due("ROOM 0 is large enough then", x.best(2), 0);
        x.hour(1, 0, 22, 4, 3);
        C.due("of ROOMS that help as many the first", x.best(2), 0);
        x.hour(1, 0, 0, 2, 3);
        C.due("the ROOM that helps most", x.best(2), 1);
    }

    /** Where the dearest WAY has fewer HOURS, the WAYS with the most count. */
    private static void mostAheadOfDearest() {
        BookedEmpty x = Check.rooms(5, 5);
        x.fault(1, true);
        x.hour(1, 0, 0, 12, 1);
        x.hour(1, 0, 0, 2, 1);
        x.hour(1, 0, 4, 2, 1);
        x.hour(0, 0, 0, 12, 6);
        x.hour(0, 0, 0, 12, 6);
        Check.office(x, "like 50 h=0&!r=2;like 50 h=0&r=2");
        C.due("two are most", x.most(0), 2);
        C.due("but the dearest is one", x.dearest(0), 60);
        C.due("which has", x.dearest(10), 0);
        C.due("best(0)", x.best(0), 1);
        C.due("best(1)", x.best(1), 1);
        C.due("best(2)", x.best(2), 1);
        BookedEmpty y = Check.rooms(5, 6, 6);
        y.fault(0, true);
        y.fault(1, true);
        y.hour(1, 0, 0, 12, 1);
        y.hour(1, 0, 0, 2, 6);
        y.hour(1, 0, 4, 2, 6);
        y.hour(0, 0, 20, 2, 1);
        Check.office(y, "like 50 h=0");
        C.due("three are most", y.most(0), 3);
        C.due("best(0), all in the last", y.best(0), 4);
        C.due("best(1)", y.best(1), 1);
        C.due("best(2), also with room 0 for the dear one", y.best(2), 0);
        BookedEmpty z = Check.rooms(5, 5, 1);
        z.fault(1, true);
        z.fault(2, true);
        z.hour(1, 0, 0, 12, 5);
        z.hour(1, 0, 0, 12, 5);
        z.hour(1, 0, 0, 2, 5);
        z.hour(1, 0, 4, 2, 5);
        Check.office(z, "like 50 h<2");
        C.due("the two short ones", z.most(0), 2);
        C.due("best(1), one of the dear ones, not both of them", z.best(1), 1);
        C.due("best(2), likewise", z.best(2), 1);
        z.fault(1, false);
        C.due("three", z.most(0), 3);
        C.due("best(2), a ROOM too small to help", z.best(2), -5);
    }

    private static void holds() {
        BookedEmpty x = Check.rooms(9);
        C.due("holds(0)", x.holds(0), -2);
        C.due("holds(21)", x.holds(21), -2);
        C.due("nothing is EMPTY by any: the greatest", x.holds(1), 12);
        x.hour(2, 0, 0, 12, 1);
        C.due("holds(1), nobody has a ROOM", x.holds(1), 12);
        x.give(0, 0);
        C.due("holds(1), a ghost", x.holds(1), 0);
        x.give(0, -1);
        x.hour(3, 9, 0, 12, 1);
        x.give(1, 0);
        C.due("holds(20), a late one: nothing ahead, then HELD and used", x.holds(20), 0);
        C.due("told(1) stays", x.told(1), 2);
        BookedEmpty y = Check.rooms(9);
        y.hour(3, 9, 10, 1, 1);
        y.hour(2, 0, 20, 1, 1);
        y.give(0, 0);
        C.due("a late one that HELD one quarter: by 0 none", y.holds(20), 0);
        BookedEmpty z = Check.rooms(9);
        z.hour(5, 0, 10, 4, 1);
        z.give(0, 0);
        C.due("holds(1): it COMES today", z.holds(1), 12);
        C.due("holds(2): but not tomorrow", z.holds(2), 0);
        C.due("waste(2)", z.waste(2), 2);
        BookedEmpty w = Check.rooms(9);
        w.hour(4, 9, 0, 4, 1);
        w.hour(2, 0, 4, 7, 1);
        w.give(0, 0);
        w.give(1, 0);
        C.due("the ghost's first four are OVER's: as many as those, at most", w.holds(1), 4);
    }

    private static void sudden() {
        BookedEmpty x = Check.rooms(6, 4, 4, 9);
        int[][] wrong = {{0, 0, 1}, {21, 0, 1}, {1, -1, 1}, {1, 40, 1}, {1, 0, 0}, {1, 0, 13}};
        for (int[] w : wrong) {
            C.due("sudden(" + w[0] + ", " + w[1] + ", " + w[2] + ")", x.sudden(w[0], w[1], w[2]), -2);
        }
        C.due("the fewest SEATS, the first of these", x.sudden(1, 0, 1), 1);
        C.due("five SEATS", x.sudden(5, 0, 1), 0);
        C.due("six SEATS", x.sudden(6, 0, 1), 0);
        C.due("seven SEATS", x.sudden(7, 39, 12), 3);
        C.due("nine SEATS", x.sudden(9, 0, 12), 3);
        C.due("ten SEATS", x.sudden(10, 0, 1), -5);
        x.fault(1, true);
        C.due("none with a FAULT", x.sudden(1, 0, 1), 2);
        C.due("no ROOMS", new BookedEmpty().sudden(1, 0, 1), -5);
    }

    private static void suddenOrder() {
        BookedEmpty x = Check.rooms(4, 20);
        x.hour(2, 0, 10, 4, 1);
        x.give(0, 0);
        x.hour(0, 0, 20, 4, 1);
        x.give(1, 1);
        C.due("FREE ones go ahead of HELD ones with fewer SEATS", x.sudden(1, 11, 1), 1);
        C.due("the ghost's ROOM is FREE again", x.sudden(1, 12, 2), 0);
        C.due("HELD in one of these", x.sudden(1, 5, 6), 1);
        C.due("up to where it is HELD", x.sudden(1, 5, 5), 0);
        C.due("somebody is in the other: HELD will do", x.sudden(1, 11, 10), 0);
        C.due("somebody is in, from one before", x.sudden(5, 19, 2), -5);
        C.due("nobody is in any more", x.sudden(5, 24, 2), 1);
        x.hour(0, 0, 38, 4, 1);
        x.give(2, 0);
        C.due("somebody is in at the end", x.sudden(1, 37, 12), 1);
        Check.office(x, "day 38");
        C.due("but not as far as the day goes", x.sudden(1, 37, 12), 0);
        C.due("behind the day nobody is anywhere", x.sudden(1, 39, 1), 0);
    }
}
