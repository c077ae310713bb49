/** Promises 11 to 13: THE TEXT, OFFICES, what they tell. */
public final class OfficeTest {
    private static final Check C = new Check("OfficeTest");

    public static void main(String[] args) {
        feed();
        faults();
        depth();
        clauses();
        tests();
        joined();
        worth();
        holdAndQuarters();
        newest();
        behindFaults();
        told();
        C.end();
    }

    private static void feed() {
        BookedEmpty x = new BookedEmpty();
        C.due("feed(-1)", x.feed(-1), -2);
        C.due("feed(128)", x.feed(128), -2);
        for (int n = 1; n <= 100; n++) {
            C.due("feed the " + n, x.feed(n == 1 ? 0 : 127), n);
        }
        C.due("feed the 101st", x.feed(32), -4);
        C.due("feed(128) on a full one: BAD goes ahead", x.feed(128), -2);
        C.due("count(6)", x.count(6), 100);
        C.due("office()", x.office(), -10);
        C.due("count(6), empty then", x.count(6), 0);
        C.due("feed(1) anew", x.feed(1), 1);
    }

    private static void fault(String text, int place) {
        BookedEmpty x = new BookedEmpty();
        C.due("office() of \"" + text + "\"", Check.office(x, text), -10 - place);
        C.due("count(2) then", x.count(2), 0);
        C.due("count(6) then", x.count(6), 0);
    }

    private static void good(String text) {
        C.due("office() of \"" + text + "\"", Check.office(new BookedEmpty(), text), 0);
    }

    private static void faults() {
        fault("", 0);
        fault("x", 0);
        fault(" hold 1", 0);
        fault("5", 0);
        fault("12 h=1", 0);
        fault("like 1 =5", 7);
        fault("like 1 5", 7);
        fault("like 1 h5", 8);
        fault("like 1 h=:", 9);
        fault("like 1 h=1:", 10);
        fault("like 1 h=/", 9);
        fault("hold :", 5);
        fault("hold 1:", 6);
        fault("hold 1/", 6);
        fault("l", 1);
        fault("lx", 1);
        fault("like", 4);
        fault("like ", 5);
        fault("like  1 h=1", 5);
        fault("like x", 5);
        fault("like 1", 6);
        fault("like 1h=1", 6);
        fault("like 1 ", 7);
        fault("like 1  h=1", 7);
        fault("like 12", 7);
        fault("like 123 h=1", 7);
        fault("like 1 h", 8);
        fault("like 1 hh", 8);
        fault("like 1 h=", 9);
        fault("like 1 h==1", 9);
        fault("like 1 h=x", 9);
        fault("like 1 h=123", 11);
        fault("like 1 h=1 ", 10);
        fault("like 1 h=1|", 11);
        fault("like 1 h=1&", 11);
        fault("like 1 h=1&|", 11);
        fault("like 1 h=1)", 10);
        fault("like 1 (h=1", 11);
        fault("like 1 (h=1;", 11);
        fault("like 1 ()", 8);
        fault("like 1 !", 8);
        fault("like 1 !&", 8);
        fault("mind 1 q=1", 7);
        fault("minx", 3);
        fault("hold 100", 7);
        fault("hold -1", 5);
        fault("hold 1 ", 6);
        fault("hold 1;", 7);
        fault("hold 1; day 1", 7);
        fault("hold 1;;", 7);
        fault("day", 3);
        fault("day ", 4);
        fault("day a", 4);
        fault("daylike", 3);
        fault("Hold 1", 0);
        good("hold 0");
        good("hold 00");
        good("day 40;day 99");
        good("like 0 h<0");
        good("mind 99 s>99;like 5 r=1");
    }

    private static void depth() {
        good("like 1 ((((h=1))))");
        good("like 1 !!!!h=1");
        good("like 1 !(!(h=1))");
        good("like 1 !h=1&!h=1|(h=1)&(h=1)");
        good("like 1 ((((h=1)))&((h=1)|(h=1)))&((((h=2))))");
        fault("like 1 (((((h=1)))))", 11);
        fault("like 1 !!!!!h=1", 11);
        fault("like 1 !(!((h=1)))", 11);
        fault("like 1 !(!(!(h=1)))", 11);
        fault("like 1 ((((!h=1))))", 11);
        fault("like 1 ((((h=1))))&(((((h=1)))))", 23);
    }

    private static void clauses() {
        good("hold 1;hold 1;hold 1;hold 1;hold 1;hold 1;hold 1;hold 1;hold 1;hold 1");
        fault("hold 1;hold 1;hold 1;hold 1;hold 1;hold 1;hold 1;hold 1;hold 1;hold 1;", 69);
        fault("hold 1;hold 1;hold 1;hold 1;hold 1;hold 1;hold 1;hold 1;hold 1;hold 1;hold 1", 69);
        StringBuilder long100 = new StringBuilder("like 10 h=10");
        while (long100.length() < 100) {
            long100.append("|h=1");
        }
        C.due("100 bytes", long100.length(), 100);
        good(long100.toString());
        fault(long100.substring(0, 99) + ";", 99);
        BookedEmpty x = Check.rooms(1);
        x.hour(0, 0, 0, 1, 1);
        Check.office(x, "like 1 h=0;like 1 h=0;like 1 h=0;like 1 h=0;like 1 h=0;like 1 h=0;like 1 h=0;like 1 h=0;like 9 h=0");
        C.due("nine likes", x.of(0, 20), 10 + 8 + 9);
    }

    /** WORTH of HOUR 1 (LATE, v 4, PEOPLE 6) in ROOM 2 (SEATS 15). */
    private static int worth(String text) {
        BookedEmpty x = Check.rooms(3, 9, 15);
        x.hour(0, 9, 0, 1, 1);
        x.hour(3, 4, 7, 2, 6);
        Check.office(x, text);
        return x.of(1, 22);
    }

    private static void is(String e, boolean want) {
        C.due(e, worth("like 7 " + e), want ? 17 : 10);
    }

    private static void tests() {
        int[] numbers = {1, 2, 3, 4, 6, 15};
        String letters = "hrkvps";
        for (int i = 0; i < numbers.length; i++) {
            char letter = letters.charAt(i);
            for (int n = numbers[i] - 1; n <= numbers[i] + 1; n++) {
                is(letter + "<" + n, numbers[i] < n);
                is(letter + "=" + n, numbers[i] == n);
                is(letter + ">" + n, numbers[i] > n);
            }
        }
        is("h=01", true);
        is("s=51", false);
        is("s<99", true);
    }

    private static void joined() {
        String yes = "h=1";
        String no = "h=0";
        is(yes + "|" + no, true);
        is(no + "|" + yes, true);
        is(no + "|" + no, false);
        is(yes + "&" + no, false);
        is(yes + "&" + yes, true);
        is(yes + "|" + no + "&" + no, true);
        is(no + "&" + no + "|" + yes, true);
        is("(" + yes + "|" + no + ")&" + no, false);
        is("!" + yes, false);
        is("!" + no + "&" + no, false);
        is("!" + no + "|" + yes, true);
        is("!(" + no + "&" + yes + ")", true);
        is("!!" + yes, true);
        is("!!!" + yes, false);
        is(no + "|" + no + "|" + yes + "&(" + no + "|" + yes + "&!(" + no + "))", true);
        is(no + "|" + yes + "&(" + no + "|" + yes + "&!(" + yes + "|" + no + "))", false);
        is(yes + "&(" + no + "|(" + yes + "&(" + no + "|(" + no + "|" + yes + "&" + yes + "))))", true);
    }

    private static void worth() {
        C.due("two likes", worth("like 5 h=1;like 7 r=2"), 22);
        C.due("one of two", worth("like 5 h=0;like 7 r=2"), 17);
        C.due("a mind", worth("mind 3 h=1"), 7);
        C.due("0 at least", worth("mind 30 h=1"), 0);
        C.due("0 at least only together", worth("mind 30 h=1;like 25 h=1"), 5);
        C.due("all together", worth("like 99 h=1;mind 99 h=1;hold 5;like 1 k=3"), 11);
        C.due("of two OFFICES the newest", worth("like 20 h=1"), 30);
    }

    private static void holdAndQuarters() {
        int[][] want = {{0, 1}, {1, 1}, {2, 2}, {39, 39}, {40, 40}, {41, 40}, {99, 40}};
        for (int[] w : want) {
            BookedEmpty x = new BookedEmpty();
            Check.office(x, "day " + w[0] + ";hold " + w[0]);
            C.due("QUARTERS by day " + w[0], x.told(2), w[1]);
            C.due("HOLD by hold " + w[0], x.told(1), w[0]);
        }
        BookedEmpty x = new BookedEmpty();
        Check.office(x, "hold 5;day 20;hold 7;like 1 h=1;day 30");
        C.due("the last hold", x.told(1), 7);
        C.due("the last day", x.told(2), 30);
        Check.office(x, "hold 4");
        C.due("day without", x.told(2), 40);
        Check.office(x, "day 4");
        C.due("hold without", x.told(1), 2);
    }

    /** A text with a FAULT leaves nothing to the next one. */
    private static void behindFaults() {
        String[] wrong = {"hold 9;x", "day 9;x", "like 9 h=0;mind 3 r=0;like 40 h=0x", "like 1 ((h=0&h=0)|!h=1", "like 5 h>"};
        BookedEmpty x = Check.rooms(1);
        x.hour(0, 0, 0, 1, 1);
        for (int n = 0; n < 4; n++) {
            for (String text : wrong) {
                C.isTrue("a FAULT", Check.office(x, text) < -10);
            }
        }
        C.due("then a right one", Check.office(x, "mind 1 h=0&r=0"), 0);
        C.due("WORTH", x.of(0, 20), 9);
        C.due("HOLD", x.told(1), 2);
        C.due("QUARTERS", x.told(2), 40);
        Check.office(x, "like 9 h=0;day 9;hold 9;x");
        C.due("then another", Check.office(x, "like 1 h=1"), 1);
        C.due("WORTH by that", x.of(0, 20), 10);
        C.due("HOLD by that", x.told(1), 2);
        C.due("QUARTERS by that", x.told(2), 40);
    }

    private static void newest() {
        BookedEmpty x = new BookedEmpty();
        for (int n = 0; n < 5; n++) {
            C.due("office() the " + n, Check.office(x, "hold " + (n + 3)), n);
            C.due("it holds", x.told(1), n + 3);
        }
        C.due("a wrong one", Check.office(x, "hold x"), -15);
        C.due("the one that held holds", x.told(1), 7);
        C.due("the sixth", Check.office(x, "hold 50"), 5);
        Check.feed(x, "hold x");
        C.due("the seventh: FULL goes ahead of the FAULT", x.office(), -4);
        C.due("THE TEXT stays", x.count(6), 6);
        C.due("count(2)", x.count(2), 6);
        C.due("the sixth holds", x.told(1), 50);
    }

    private static void told() {
        BookedEmpty x = Check.rooms(5, 6);
        x.hour(0, 0, 0, 1, 1);
        x.hour(0, 0, 1, 1, 1);
        x.hour(0, 0, 2, 1, 1);
        x.give(0, 1);
        x.give(2, 0);
        x.pass(9);
        Check.office(x, "like 5 r=1;mind 4 h=2;like 50 h=1");
        C.due("told(0)", x.told(0), 9);
        C.due("told(3)", x.told(3), 2);
        C.due("told(4)", x.told(4), 15 + 6);
        C.due("told(-1)", x.told(-1), -1);
        C.due("told(5)", x.told(5), -1);
    }
}
