/** The Terms, part 1: each sentence on THE TEXT and OFFICES that names a boundary. */
final class TextEdges {
    private static final String PART = "Terms 1";
    private static final int FULL = -4;
    private static final String DIGITS = "0123456789", LETTERS = "hrkvps";

    private final Sentences s;

    private TextEdges(Sentences s) {
        this.s = s;
    }

    static void all(Sentences s) {
        TextEdges e = new TextEdges(s);
        e.text();
        e.clauses();
        e.words();
        e.digits();
        e.expressions();
        e.joined();
        e.tests();
        e.depth();
        e.fault();
        e.newest();
        e.without();
        e.worth();
        e.holdAndQuarters();
        e.dayEnds();
    }

    private void fault(String text, int place) {
        s.due("office() of \"" + text + "\"", Check.office(new BookedEmpty(), text), -10 - place);
    }

    private void right(String text) {
        s.due("office() of \"" + text + "\"", Check.office(new BookedEmpty(), text), 0);
    }

    /** Every sign behind a text: those with which it goes on, those with which it is right; all others are a FAULT. */
    private void next(String text, String goesOn, String ends) {
        for (char sign = 0; sign < 128; sign++) {
            String more = text + sign;
            if (ends.indexOf(sign) >= 0) {
                right(more);
            } else {
                fault(more, goesOn.indexOf(sign) >= 0 ? more.length() : text.length());
            }
        }
    }

    private static String times(String text, int n, String between) {
        StringBuilder all = new StringBuilder(text);
        for (int i = 1; i < n; i++) {
            all.append(between).append(text);
        }
        return all.toString();
    }

    private void text() {
        s.says(PART, "An OFFICE is read from THE TEXT (bytes, 100 at most)");
        BookedEmpty x = new BookedEmpty();
        for (int n = 1; n <= 100; n++) {
            s.due("feed() the " + n, x.feed('h'), n);
        }
        s.due("feed() the 101st", x.feed('h'), FULL);
        s.due("count(6)", x.count(6), 100);
        String whole = "like 10 h=10" + "|h=1".repeat(22);
        s.due("so many bytes", whole.length(), 100);
        right(whole);
        x = new BookedEmpty();
        Check.feed(x, whole);
        s.due("feed() of one more", x.feed('9'), FULL);
        s.due("office(), without that one", x.office(), 0);
    }

    private void clauses() {
        s.says(PART, "CLAUSES, 1 to 10, with ; between");
        fault("", 0);
        fault(";", 0);
        fault(";day 1", 0);
        right("day 1");
        for (int n = 2; n <= 10; n++) {
            right(times("day 1", n, ";"));
            fault(times("day 1", n, ";;"), 6);
            fault(times("day 1", n, " "), 5);
            fault(times("day 1", n, ""), 5);
        }
        fault(times("day 1", 9, ";") + ";", 54);
        fault(times("day 1", 10, ";") + ";", 59);
        fault(times("day 1", 11, ";"), 59);
        fault(times("like 1 h=1", 9, ";") + ";", 99);
        BookedEmpty x = new BookedEmpty();
        Check.office(x, times("hold 5", 9, ";") + ";hold 6");
        s.due("HOLD by the tenth", x.told(1), 6);
        x = Check.rooms(1);
        x.hour(0, 0, 0, 1, 1);
        Check.office(x, times("like 1 h=0", 9, ";"));
        s.due("WORTH by nine", x.of(0, 20), 19);
        Check.office(x, "day 1;" + times("like 1 h=0", 8, ";"));
        s.due("WORTH by eight behind another", x.of(0, 20), 18);
    }

    private void words() {
        s.says(PART, "like n E; mind n E; hold n; day n (one blank ahead of each part behind the word;");
        String[] texts = {"like 1 h=1", "mind 1 h=1", "hold 1", "day 1"};
        for (String t : texts) {
            right(t);
            int word = t.indexOf(' ');
            for (int i = 1; i <= word; i++) {
                fault(t.substring(0, i), i);
                fault(t.substring(0, i) + "x", i);
            }
            fault(" " + t, 0);
            fault(t.substring(0, word) + t.substring(word + 1), word);
            fault(t.substring(0, word) + " " + t.substring(word), word + 1);
            fault(t.toUpperCase(), 0);
        }
        next("", "lmhd", "");
        next("like", " ", "");
        next("mind", " ", "");
        next("hold", " ", "");
        next("day", " ", "");
        fault("like 1h=1", 6);
        fault("mind 1h=1", 6);
        fault("like 1  h=1", 7);
        fault("mind 1  h=1", 7);
        fault("like 1", 6);
        fault("mind 1;day 1", 6);
        fault("hold 1 ", 6);
        fault("hold 1 h=1", 6);
        fault("day 1 ", 5);
        fault("hold 1; day 1", 7);
        fault("hold 1 ;day 1", 6);
        fault("like 1 h =1", 8);
        fault("like 1 h= 1", 9);
        fault("like 1 h=1 ", 10);
        fault("like 1 h=1| h=1", 11);
        fault("like 1 ( h=1)", 8);
    }

    private void digits() {
        s.says(PART, "n 1 or 2 digits");
        next("like ", DIGITS, "");
        next("like 1", DIGITS + " ", "");
        next("like 12", " ", "");
        next("mind 12", " ", "");
        next("hold ", "", DIGITS);
        next("hold 1", ";", DIGITS);
        next("hold 12", ";", "");
        next("day ", "", DIGITS);
        next("day 1", ";", DIGITS);
        next("day 12", ";", "");
        s.due("like 00", worth("like 00 h=1"), 10);
        s.due("like 09", worth("like 09 h=1"), 19);
        s.due("like 90", worth("like 90 h=1"), 100);
        s.due("like 99", worth("like 99 h=1"), 109);

        s.says(PART, "a number (1 or 2 digits)");
        next("like 1 h=", "", DIGITS);
        next("like 1 h=1", ";|&", DIGITS);
        next("like 1 h=12", ";|&", "");
        next("like 1 (h=1", "|&" + DIGITS, ")");
        next("like 1 (h=12", "|&", ")");
        is("h=01", true);
        is("h=10", false);
        is("h=11", false);
        is("s=15", true);
        is("s=51", false);
        is("s<99", true);
        is("s<00", false);
    }

    private void expressions() {
        s.says(PART, "E: T or T|E. T: F or F&T. F: !F, (E), or a TEST: a letter, < or = or >,");
        next("like 1 ", LETTERS + "!(", "");
        next("mind 1 ", LETTERS + "!(", "");
        next("like 1 !", LETTERS + "!(", "");
        next("like 1 (", LETTERS + "!(", "");
        next("like 1 h=1|", LETTERS + "!(", "");
        next("like 1 h=1&", LETTERS + "!(", "");
        next("like 1 (h=1)", ";|&", "");
        next("like 1 !(h=1)", ";|&", "");
        next("like 1 ((h=1)", "|&", ")");
        next("like 1 !h=12", ";|&", "");
        for (int i = 0; i < LETTERS.length(); i++) {
            next("like 1 " + LETTERS.charAt(i), "<=>", "");
        }
        right("like 1 (h=1)");
        right("like 1 h=1|h=1|h=1&h=1&h=1");
        fault("like 1 ()", 8);
        fault("like 1 h=1)", 10);
        fault("like 1 (h=1", 11);
        fault("like 1 (h=1))", 12);
        fault("like 1 h=1||h=1", 11);
        fault("like 1 h=1&&h=1", 11);
        fault("like 1 h=1!h=1", 10);
        fault("like 1 h=1(h=1)", 10);
        fault("like 1 h<=1", 9);
        fault("like 1 h", 8);
        fault("like 1 1=h", 7);
    }

    private void joined() {
        s.says(PART, "E: T or T|E. T: F or F&T. F: !F, (E), or a TEST: a letter, < or = or >,");
        String[] values = {"h=0", "h=1"};
        for (int a = 0; a < 2; a++) {
            is("!" + values[a], a == 0);
            is("!!" + values[a], a == 1);
            is("(" + values[a] + ")", a == 1);
            for (int b = 0; b < 2; b++) {
                is(values[a] + "|" + values[b], a + b > 0);
                is(values[a] + "&" + values[b], a + b > 1);
                is("!" + values[a] + "&" + values[b], a == 0 && b == 1);
                is("!" + values[a] + "|" + values[b], a == 0 || b == 1);
                for (int c = 0; c < 2; c++) {
                    is(values[a] + "|" + values[b] + "&" + values[c], a == 1 || b == 1 && c == 1);
                    is(values[a] + "&" + values[b] + "|" + values[c], a == 1 && b == 1 || c == 1);
                    is("(" + values[a] + "|" + values[b] + ")&" + values[c], (a == 1 || b == 1) && c == 1);
                    is(values[a] + "&(" + values[b] + "|" + values[c] + ")", a == 1 && (b == 1 || c == 1));
                    is("!(" + values[a] + "&" + values[b] + ")|" + values[c], !(a == 1 && b == 1) || c == 1);
                }
            }
        }
    }

    private void tests() {
        s.says(PART, "of an HOUR and a ROOM h the number of the one, r of the other, k its KIND, v its v, p PEOPLE, "
            + "s SEATS of the ROOM.");
        int[] numbers = {1, 2, 3, 4, 6, 15};
        for (int i = 0; i < numbers.length; i++) {
            for (int n = 0; n <= 99; n++) {
                is(LETTERS.charAt(i) + "<" + n, numbers[i] < n);
                is(LETTERS.charAt(i) + "=" + n, numbers[i] == n);
                is(LETTERS.charAt(i) + ">" + n, numbers[i] > n);
            }
        }
    }

    private void depth() {
        s.says(PART, "A ( or ! within 4 others is none.");
        String[] four = {"((((", "!!!!", "(!(!", "!(!(", "((!!", "!!(("};
        for (String open : four) {
            String close = ")".repeat((int) open.chars().filter(c -> c == '(').count());
            right("like 1 " + open + "h=1" + close);
            right("like 1 " + open + "h=1" + close + "&" + open + "h=1" + close);
            right("like 1 " + open + "h=1" + close + "|" + open + "h=1" + close);
            next("like 1 " + open.substring(0, 3), LETTERS + "!(", "");
            next("like 1 " + open, LETTERS, "");
            next("like 1 " + open + "h=1" + close + "|" + open, LETTERS, "");
        }
        right("like 1 (((!h=1|!h=1)&(h=1))&((h=1)))&!!!!h=1");
        fault("like 1 ((((h=1&!h=1))))", 15);
        fault("like 1 ((((h=1|(h=1)))))", 15);
        right("like 1 ((((h=1)|!h=1)|!!h=1)|!!!h=1)|!!!!h=1");
    }

    private void fault() {
        s.says(PART, "The FAULT of a text: the place of the first byte with which none begins so (the end of THE "
            + "TEXT, if it ends too early).");
        fault("x", 0);
        fault("hx", 1);
        fault("hold 1x", 6);
        fault("hold x;x", 5);
        fault("hold 1;day 1;like 1 h=1;x", 24);
        fault("", 0);
        fault("h", 1);
        fault("like 1 h=1&", 11);
        fault("like 1 h=10" + "|h=1".repeat(22) + "|", 100);
        fault("like 10 h=10" + "|h=1".repeat(21) + "|h=x", 99);
        BookedEmpty x = new BookedEmpty();
        s.due("a sign 0 first", Check.office(x, "\0"), -10);
        s.due("a sign 127 first", Check.office(x, "\177"), -10);
        s.due("a sign 0 behind", Check.office(x, "day 1\0"), -15);
        s.due("and then the next", Check.office(x, "day 1"), 0);
    }

    private void newest() {
        s.says(PART, "The newest OFFICE holds (6 at most)");
        BookedEmpty x = new BookedEmpty();
        for (int n = 0; n < 6; n++) {
            s.due("office() of \"hold " + (n + 3) + "\"", Check.office(x, "hold " + (n + 3)), n);
            s.due("told(1)", x.told(1), n + 3);
        }
        s.due("the seventh", Check.office(x, "hold 50"), FULL);
        s.due("told(1)", x.told(1), 8);
        s.due("count(2)", x.count(2), 6);
    }

    private void without() {
        s.says(PART, "without one there are no CLAUSES.");
        BookedEmpty x = Check.rooms(20);
        x.hour(0, 0, 0, 1, 1);
        x.give(0, 0);
        s.due("WORTH", x.of(0, 20), 10);
        s.due("told(4)", x.told(4), 10);
        s.due("told(1)", x.told(1), 2);
        s.due("told(2)", x.told(2), 40);
        s.due("count(2)", x.count(2), 0);
        Check.office(x, "like 5 h=0;hold 7;day 7;");
        s.due("WORTH, by a text with a FAULT", x.of(0, 20), 10);
        s.due("told(1), by a text with a FAULT", x.told(1), 2);
        s.due("told(2), by a text with a FAULT", x.told(2), 40);
    }

    /** WORTH of HOUR 1 (LATE, v 4, PEOPLE 6) in ROOM 2 (SEATS 15). */
    private static int worth(String text) {
        BookedEmpty x = Check.rooms(3, 9, 15);
        x.hour(0, 9, 0, 1, 1);
        x.hour(3, 4, 7, 2, 6);
        Check.office(x, text);
        return x.of(1, 22);
    }

    private void is(String e, boolean want) {
        s.due("\"" + e + "\"", worth("like 7 " + e), want ? 17 : 10);
    }

    private void worth() {
        s.says(PART, "WORTH of an HOUR in a ROOM: 10, and the n of all like whose E holds, less those of all mind, "
            + "together (0 at least).");
        s.due("one like that holds", worth("like 5 h=1"), 15);
        s.due("one like that does not", worth("like 5 h=0"), 10);
        s.due("one mind that holds", worth("mind 5 h=1"), 5);
        s.due("one mind that does not", worth("mind 5 h=0"), 10);
        s.due("of three two", worth("like 5 h=1;like 50 h=2;like 7 r=2"), 22);
        s.due("1 is left", worth("mind 9 h=1"), 1);
        s.due("0 is left", worth("mind 10 h=1"), 0);
        s.due("less than 0", worth("mind 11 h=1"), 0);
        s.due("much less", worth("mind 99 h=1;mind 99 h=1"), 0);
        s.due("1 is left by all", worth("mind 11 h=1;like 2 h=1"), 1);
        s.due("0 is left by all", worth("like 1 h=1;mind 11 h=1"), 0);
        s.due("0 at least by all together, not one by one", worth("mind 30 h=1;like 25 h=1"), 5);
        s.due("the greatest by one", worth("like 99 h=1"), 109);
        s.due("the greatest by eight", worth(times("like 99 h=1", 8, ";")), 10 + 8 * 99);
        BookedEmpty x = Check.rooms(20);
        x.hour(0, 0, 0, 1, 1);
        x.hour(0, 0, 5, 1, 1);
        x.give(0, 0);
        x.give(1, 0);
        Check.office(x, "mind 30 h=0;like 5 h=1");
        s.due("told(4): 0 at least for each", x.told(4), 0 + 15);
        for (int n = 0; n < 4; n++) {
            Check.office(x, "like 9 h=1" + "|h=1".repeat(n == 0 ? 0 : 21) + ";");
        }
        Check.office(x, "like 9 h=0;like 9 h=0;");
        Check.office(x, "mind 1 h=0");
        s.due("nothing of texts with a FAULT", x.of(0, 20), 9);
        s.due("nothing of texts with a FAULT", x.of(1, 20), 10);
    }

    private void holdAndQuarters() {
        s.says(PART, "HOLD (2 without), QUARTERS (40 without; 1 if less, 40 if more): the last n of hold, of day");
        int[][] days = {{0, 1}, {1, 1}, {2, 2}, {39, 39}, {40, 40}, {41, 40}, {99, 40}};
        for (int[] d : days) {
            BookedEmpty x = new BookedEmpty();
            Check.office(x, "day " + d[0]);
            s.due("QUARTERS by day " + d[0], x.told(2), d[1]);
            s.due("HOLD without", x.told(1), 2);
            x = new BookedEmpty();
            Check.office(x, "hold " + d[0]);
            s.due("HOLD by hold " + d[0], x.told(1), d[0]);
            s.due("QUARTERS without", x.told(2), 40);
        }
        BookedEmpty x = new BookedEmpty();
        Check.office(x, "hold 5;day 20;hold 7;like 1 h=1;day 30");
        s.due("the last hold", x.told(1), 7);
        s.due("the last day", x.told(2), 30);
        Check.office(x, "hold 9;hold 0;day 9;day 0");
        s.due("the last hold, 0", x.told(1), 0);
        s.due("the last day, 0", x.told(2), 1);
        Check.office(x, "like 1 h=1");
        s.due("HOLD without, behind another OFFICE", x.told(1), 2);
        s.due("QUARTERS without, behind another OFFICE", x.told(2), 40);
        x = new BookedEmpty();
        Check.office(x, "hold 5;hold 99;day 20;day 41");
        s.due("the last hold, 99", x.told(1), 99);
        s.due("the last day, 41: 40", x.told(2), 40);
        x = new BookedEmpty();
        Check.office(x, "hold 9;day 9;");
        Check.office(x, "like 1 h=1");
        s.due("HOLD without, behind a text with a FAULT", x.told(1), 2);
        s.due("QUARTERS without, behind a text with a FAULT", x.told(2), 40);
    }

    private void dayEnds() {
        s.says(PART, "a day has quarters 0 .. QUARTERS less 1.");
        int[] quarters = {1, 2, 39, 40};
        for (int n : quarters) {
            BookedEmpty x = Check.rooms(20);
            x.hour(0, 0, n - 1, 12, 1);
            x.hour(0, 0, 0, 1, 1);
            x.give(0, 0);
            Check.office(x, "day " + n);
            s.due("day " + n + ": in its last", x.inside(0, n - 1), 1);
            s.due("day " + n + ": HELD in its last", x.held(0, n - 1), 1);
            if (n < 40) {
                s.due("day " + n + ": behind its last", x.inside(0, n), 0);
                s.due("day " + n + ": HELD behind its last", x.held(0, n), 0);
            }
            s.due("day " + n + ": FREE", x.at(0, 3), n - 1);
            x.give(0, -1);
            s.due("day " + n + ": all FREE", x.at(0, 3), n);
        }
    }
}
