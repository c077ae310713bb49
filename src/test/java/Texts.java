import java.util.Random;

/** Texts for OFFICES, right or nearly so. */
final class Texts {
    private static final String SIGNS = "likemndholay hrkvps<=>0123456789|&!();";

    private Texts() {
    }

    static String text(Random random) {
        StringBuilder s = new StringBuilder();
        int clauses = random.nextInt(8) == 0 ? 8 + random.nextInt(5) : 1 + random.nextInt(4);
        for (int i = 0; i < clauses; i++) {
            s.append(i == 0 ? "" : ";");
            clause(random, s, clauses > 7);
        }
        int faults = random.nextInt(3) == 0 ? 1 + random.nextInt(2) : 0;
        for (int i = 0; i < faults && s.length() > 0; i++) {
            spoil(random, s);
        }
        if (s.length() > 100) {
            s.setLength(100);
        }
        return s.toString();
    }

    private static void clause(Random random, StringBuilder s, boolean isShort) {
        int which = isShort ? 2 + random.nextInt(2) : random.nextInt(5);
        if (which == 2) {
            s.append("hold ");
            number(random, s, 14);
        } else if (which == 3) {
            s.append("day ");
            number(random, s, 45);
        } else {
            s.append(which == 1 ? "mind " : "like ");
            number(random, s, 25);
            s.append(' ');
            either(random, s, 0);
        }
    }

    private static void number(Random random, StringBuilder s, int below) {
        int n = random.nextInt(6) == 0 ? random.nextInt(100) : random.nextInt(below);
        if (n < 10 && random.nextInt(5) == 0) {
            s.append('0');
        }
        s.append(n);
    }

    /** Now and then a level too deep. */
    private static void either(Random random, StringBuilder s, int depth) {
        both(random, s, depth);
        while (random.nextInt(4) == 0) {
            s.append('|');
            both(random, s, depth);
        }
    }

    private static void both(Random random, StringBuilder s, int depth) {
        one(random, s, depth);
        while (random.nextInt(4) == 0) {
            s.append('&');
            one(random, s, depth);
        }
    }

    private static void one(Random random, StringBuilder s, int depth) {
        int which = depth < 4 || depth == 4 && random.nextInt(8) == 0 ? random.nextInt(7) : 6;
        if (which < 2) {
            s.append('!');
            one(random, s, depth + 1);
        } else if (which < 4) {
            s.append('(');
            either(random, s, depth + 1);
            s.append(')');
        } else {
            s.append("hrkvps".charAt(random.nextInt(6)));
            s.append("<=>".charAt(random.nextInt(3)));
            number(random, s, 10);
        }
    }

    private static void spoil(Random random, StringBuilder s) {
        int at = random.nextInt(s.length());
        char sign = random.nextInt(20) == 0 ? (char) random.nextInt(128) : SIGNS.charAt(random.nextInt(SIGNS.length()));
        switch (random.nextInt(4)) {
            case 0:
                s.setLength(at);
                break;
            case 1:
                s.deleteCharAt(at);
                break;
            case 2:
                s.insert(at, sign);
                break;
            default:
                s.setCharAt(at, sign);
        }
    }
}
