/** Compares answers with those that are due, and ends a test program. */
final class Check {
    private final String name;
    private int right;
    private int wrong;

    Check(String name) {
        this.name = name;
    }

    void due(String call, long got, long want) {
        if (got == want) {
            right++;
        } else {
            wrong++;
            System.out.println(name + ": " + call + " answered " + got + ", due is " + want);
        }
    }

    void isTrue(String what, boolean is) {
        due(what, is ? 1 : 0, 1);
    }

    void end() {
        System.out.println(name + ": " + right + " answers right, " + wrong + " wrong");
        if (wrong != 0 || right == 0) {
            System.exit(1);
        }
    }

    /** Feeds a text sign by sign. */
    static void feed(BookedEmpty x, String text) {
        for (int i = 0; i < text.length(); i++) {
            x.feed(text.charAt(i));
        }
    }

    /** Feeds a text and makes it an OFFICE: what office() answers. */
    static int office(BookedEmpty x, String text) {
        feed(x, text);
        return x.office();
    }

    /** A new object with ROOMS of these SEATS. */
    static BookedEmpty rooms(int... seats) {
        BookedEmpty x = new BookedEmpty();
        for (int s : seats) {
            x.room(s);
        }
        return x;
    }
}
