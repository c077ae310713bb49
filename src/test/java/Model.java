import java.lang.reflect.Array;
import java.util.ArrayList;
import java.util.Arrays;
import java.util.Comparator;
import java.util.List;

/**
 * The document once more, told as plainly as can be and slowly: quarter by quarter, text by text, with the Java
 * library, with classes for the KINDS. ModelTest compares the program with it.
 */
final class Model {
    private static final long NO = Long.MIN_VALUE;

    static final class R {
        int seats;
        boolean fault;
    }

    static final class H {
        int kind;
        int v;
        int from;
        int len;
        int people;
        int room = -1;
        int[] row = new int[4];
    }

    /** What THE IMAGE keeps. */
    static final class S {
        List<R> rooms = new ArrayList<>();
        List<H> hours = new ArrayList<>();
        int day;
        int office = -1;
        List<int[]> seen = new ArrayList<>();
        List<int[]> plan = new ArrayList<>();
        List<int[]> book = new ArrayList<>();

        S copy() {
            S s = new S();
            for (R r : rooms) {
                R q = new R();
                q.seats = r.seats;
                q.fault = r.fault;
                s.rooms.add(q);
            }
            for (H h : hours) {
                H g = new H();
                g.kind = h.kind;
                g.v = h.v;
                g.from = h.from;
                g.len = h.len;
                g.people = h.people;
                g.room = h.room;
                g.row = h.row.clone();
                s.hours.add(g);
            }
            s.day = day;
            s.office = office;
            s.seen.addAll(seen);
            s.plan.addAll(plan);
            s.book.addAll(book);
            return s;
        }
    }

    private S s = new S();
    private S image;
    private final List<String> offices = new ArrayList<>();
    private String text = "";
    private final Object[] tapes = new Object[6];
    private final List<Integer> trace = new ArrayList<>();
    private int forcedHold = -1;

    // ---- the office that holds

    private String[] clausesOfOffice() {
        return s.office < 0 ? new String[0] : offices.get(s.office).split(";");
    }

    private int hold() {
        if (forcedHold >= 0) {
            return forcedHold;
        }
        int n = 2;
        for (String c : clausesOfOffice()) {
            if (c.startsWith("hold ")) {
                n = Integer.parseInt(c.substring(5));
            }
        }
        return n;
    }

    private int quarters() {
        int n = 40;
        for (String c : clausesOfOffice()) {
            if (c.startsWith("day ")) {
                n = Integer.parseInt(c.substring(4));
            }
        }
        return n < 1 ? 1 : n > 40 ? 40 : n;
    }

    private int worth(int h, int r) {
        int sum = 10;
        for (String c : clausesOfOffice()) {
            String[] parts = c.split(" ");
            if (parts.length == 3 && isSo(parts[2], h, r)) {
                sum += Integer.parseInt(parts[1]) * (parts[0].equals("like") ? 1 : -1);
            }
        }
        return sum < 0 ? 0 : sum;
    }

    /** The first place of a sign that stands in no ( ); -1: none. */
    private static int outside(String e, char sign) {
        int open = 0;
        for (int i = 0; i < e.length(); i++) {
            open += e.charAt(i) == '(' ? 1 : e.charAt(i) == ')' ? -1 : 0;
            if (open == 0 && e.charAt(i) == sign) {
                return i;
            }
        }
        return -1;
    }

    private boolean isSo(String e, int h, int r) {
        int or = outside(e, '|');
        if (or >= 0) {
            return isSo(e.substring(0, or), h, r) || isSo(e.substring(or + 1), h, r);
        }
        int and = outside(e, '&');
        if (and >= 0) {
            return isSo(e.substring(0, and), h, r) && isSo(e.substring(and + 1), h, r);
        }
        if (e.startsWith("!")) {
            return !isSo(e.substring(1), h, r);
        }
        if (e.startsWith("(")) {
            return isSo(e.substring(1, e.length() - 1), h, r);
        }
        H hour = s.hours.get(h);
        int number = switch (e.charAt(0)) {
            case 'h' -> h;
            case 'r' -> r;
            case 'k' -> hour.kind;
            case 'v' -> hour.v;
            case 'p' -> hour.people;
            case 's' -> s.rooms.get(r).seats;
            default -> throw new IllegalStateException(e);
        };
        int n = Integer.parseInt(e.substring(2));
        return switch (e.charAt(1)) {
            case '<' -> number < n;
            case '=' -> number == n;
            case '>' -> number > n;
            default -> throw new IllegalStateException(e);
        };
    }

    // ---- hours

    private boolean isBooked(H h, int q) {
        return q >= h.from && q <= h.from + h.len - 1 && q <= quarters() - 1;
    }

    private int comes(H h, int day) {
        return switch (h.kind) {
            case 0, 1, 4 -> h.from;
            case 2 -> -5;
            case 3 -> h.from + h.v / 3;
            case 5 -> day % (h.v + 2) == 0 ? h.from : -5;
            default -> h.from + h.v / 3 + h.row[day % 4];
        };
    }

    private int goes(H h) {
        return h.from + h.len + (h.kind == 4 ? h.v / 2 : 0);
    }

    private boolean isIn(H h, int day, int q) {
        return comes(h, day) != -5 && q >= comes(h, day) && q < goes(h) && q < quarters();
    }

    private boolean isHeld(H h, int day, int q) {
        boolean late = comes(h, day) == -5 || comes(h, day) > h.from + hold();
        return isBooked(h, q) && (!late || q < h.from + hold());
    }

    private boolean fits(H h, R r) {
        return r.seats >= h.people && !((h.kind == 1 || h.kind == 4) && r.fault);
    }

    private boolean clash(H a, H b) {
        for (int q = 0; q < 40; q++) {
            if (isBooked(a, q) && isBooked(b, q)) {
                return true;
            }
        }
        return false;
    }

    // ---- rooms

    private boolean anyIn(int r, int day, int q) {
        return s.hours.stream().anyMatch(h -> h.room == r && isIn(h, day, q));
    }

    private boolean anyHeld(int r, int day, int q) {
        return s.hours.stream().anyMatch(h -> h.room == r && isHeld(h, day, q));
    }

    private int empty(int r, int day) {
        int n = 0;
        for (int q = 0; q < quarters(); q++) {
            n += anyHeld(r, day, q) && !anyIn(r, day, q) ? 1 : 0;
        }
        return n;
    }

    private int free(int r, int day) {
        int n = 0;
        for (int q = 0; q < quarters(); q++) {
            n += !anyHeld(r, day, q) && !anyIn(r, day, q) ? 1 : 0;
        }
        return n;
    }

    private int emptyOf(int days) {
        int n = 0;
        for (int d = 0; d < days; d++) {
            for (int r = 0; r < s.rooms.size(); r++) {
                n += empty(r, s.day + d);
            }
        }
        return n;
    }

    private boolean hasRoom(int r) {
        return r >= 0 && r < s.rooms.size();
    }

    private boolean hasHour(int h) {
        return h >= 0 && h < s.hours.size();
    }

    private static boolean in(int n, int a, int b) {
        return a <= n && n <= b;
    }

    // ---- ways

    /** Count, WORTH, then the row; of all WAYS the best by a comparison. Rows: the number of ROOMS for none. */
    private int[] bestWay(int allowed, Comparator<int[]> better) {
        int none = s.rooms.size();
        int n = s.hours.size();
        int all = 1;
        for (int h = 0; h < n; h++) {
            all *= none + 1;
        }
        boolean[][] clashes = new boolean[n][n];
        boolean[][] fits = new boolean[n][none];
        int[][] worths = new int[n][none];
        for (int a = 0; a < n; a++) {
            for (int b = 0; b < n; b++) {
                clashes[a][b] = clash(s.hours.get(a), s.hours.get(b));
            }
            for (int r = 0; r < none; r++) {
                fits[a][r] = fits(s.hours.get(a), s.rooms.get(r)) && (allowed >> r & 1) != 0;
                worths[a][r] = worth(a, r);
            }
        }
        int[] best = null;
        // The first HOUR in the lowest place, so that the rows do not come in their order.
        for (int number = 0; number < all; number++) {
            int[] way = new int[n + 2];
            int rest = number;
            boolean is = true;
            for (int h = 0; h < n && is; h++) {
                int r = rest % (none + 1);
                rest /= none + 1;
                way[h + 2] = r;
                if (r == none) {
                    continue;
                }
                is = fits[h][r];
                for (int g = 0; g < h; g++) {
                    is &= way[g + 2] != r || !clashes[g][h];
                }
                way[0]++;
                way[1] += worths[h][r];
            }
            if (is && (best == null || better.compare(way, best) < 0)) {
                best = way;
            }
        }
        return best;
    }

    private static int byRow(int[] a, int[] b) {
        for (int i = 2; i < a.length; i++) {
            if (a[i] != b[i]) {
                return Integer.compare(a[i], b[i]);
            }
        }
        return 0;
    }

    private int[] mostWay(int allowed) {
        return bestWay(allowed, (a, b) -> a[0] != b[0] ? b[0] - a[0] : a[1] != b[1] ? b[1] - a[1] : byRow(a, b));
    }

    private int[] dearestWay() {
        return bestWay(-1, (a, b) -> a[1] != b[1] ? b[1] - a[1] : byRow(a, b));
    }

    // ---- the face

    int room(int seats) {
        if (!in(seats, 1, 20)) {
            return -2;
        }
        if (s.rooms.size() == 4) {
            return -4;
        }
        R r = new R();
        r.seats = seats;
        s.rooms.add(r);
        return s.rooms.size() - 1;
    }

    int hour(int kind, int v, int from, int len, int people) {
        if (!in(kind, 0, 6)) {
            return -1;
        }
        if (!in(v, 0, 9) || !in(from, 0, 39) || !in(len, 1, 12) || !in(people, 1, 20)) {
            return -2;
        }
        if (s.hours.size() == 6) {
            return -4;
        }
        H h = new H();
        h.kind = kind;
        h.v = v;
        h.from = from;
        h.len = len;
        h.people = people;
        s.hours.add(h);
        return s.hours.size() - 1;
    }

    int of(int hour, int what) {
        if (!hasHour(hour)) {
            return -1001;
        }
        H h = s.hours.get(hour);
        int held = 0;
        for (int q = 0; q < 40; q++) {
            held += isHeld(h, s.day, q) ? 1 : 0;
        }
        int[] first = {h.kind, h.v, h.from, h.len, h.people, h.room < 0 ? -5 : h.room, comes(h, s.day), goes(h), held};
        if (in(what, 0, 8)) {
            return first[what];
        }
        for (int r = 0; r < s.rooms.size(); r++) {
            if (what == 10 + r) {
                return fits(h, s.rooms.get(r)) ? 1 : 0;
            }
            if (what == 20 + r) {
                return worth(hour, r);
            }
        }
        return -1001;
    }

    int at(int room, int what) {
        if (!hasRoom(room) || !in(what, 0, 3)) {
            return -1;
        }
        R r = s.rooms.get(room);
        return new int[] {r.seats, r.fault ? 1 : 0, empty(room, s.day), free(room, s.day)}[what];
    }

    int fault(int room, boolean is) {
        if (!hasRoom(room)) {
            return -1;
        }
        boolean had = s.rooms.get(room).fault;
        s.rooms.get(room).fault = is;
        return had ? 1 : 0;
    }

    int row(int hour, int part, int n) {
        if (!hasHour(hour) || !in(part, 0, 3)) {
            return -1;
        }
        if (!in(n, 0, 9)) {
            return -2;
        }
        H h = s.hours.get(hour);
        if (h.kind != 6) {
            return -3;
        }
        int was = h.row[part];
        h.row[part] = n;
        return was;
    }

    int give(int hour, int room) {
        if (!hasHour(hour) || !hasRoom(room) && room != -1) {
            return -1;
        }
        H h = s.hours.get(hour);
        if (room >= 0) {
            if (!fits(h, s.rooms.get(room))) {
                return -3;
            }
            for (H g : s.hours) {
                if (g != h && g.room == room && clash(g, h)) {
                    return -3;
                }
            }
        }
        int had = h.room;
        h.room = room;
        return had < 0 ? -5 : had;
    }

    int inside(int room, int quarter) {
        if (!hasRoom(room) || !in(quarter, 0, 39)) {
            return -1;
        }
        int bits = 0;
        for (int h = 0; h < s.hours.size(); h++) {
            H g = s.hours.get(h);
            bits += g.room == room && isIn(g, s.day, quarter) ? 1 << h : 0;
        }
        return bits;
    }

    int held(int room, int quarter) {
        if (!hasRoom(room) || !in(quarter, 0, 39)) {
            return -1;
        }
        int bits = 0;
        for (int h = 0; h < s.hours.size(); h++) {
            H g = s.hours.get(h);
            bits += g.room == room && isHeld(g, s.day, quarter) ? 1 << h : 0;
        }
        return bits;
    }

    int feed(int sign) {
        if (!in(sign, 0, 127)) {
            return -2;
        }
        if (text.length() == 100) {
            return -4;
        }
        text += (char) sign;
        return text.length();
    }

    int office() {
        if (offices.size() == 6) {
            return -4;
        }
        int fault = Grammar.fault(text);
        if (fault < 0) {
            offices.add(text);
            s.office = offices.size() - 1;
        }
        text = "";
        return fault < 0 ? s.office : -10 - fault;
    }

    int told(int what) {
        int housed = 0;
        int worth = 0;
        for (int h = 0; h < s.hours.size(); h++) {
            if (s.hours.get(h).room >= 0) {
                housed++;
                worth += worth(h, s.hours.get(h).room);
            }
        }
        return in(what, 0, 4) ? new int[] {s.day, hold(), quarters(), housed, worth}[what] : -1;
    }

    int pass(int n) {
        if (!in(n, 0, 60)) {
            return -2;
        }
        if (s.day + n > 9999) {
            return -3;
        }
        s.day += n;
        return s.day;
    }

    int waste(int n) {
        return in(n, 0, 30) ? emptyOf(n) : -2;
    }

    int on(int n, int what) {
        boolean known = in(what, 10, 9 + s.hours.size()) || in(what, 20, 19 + s.rooms.size())
            || in(what, 30, 29 + s.rooms.size());
        if (!known) {
            return -1;
        }
        if (!in(n, 0, 60)) {
            return -2;
        }
        return what < 20 ? comes(s.hours.get(what - 10), s.day + n)
            : what < 30 ? empty(what - 20, s.day + n) : free(what - 30, s.day + n);
    }

    private int fromWay(int[] way, int h) {
        return way[h + 2] == s.rooms.size() ? -5 : way[h + 2];
    }

    int most(int what) {
        if (what != 0 && what != 1 && !in(what, 10, 9 + s.hours.size())) {
            return -1;
        }
        int[] way = mostWay(-1);
        return what < 2 ? way[what] : fromWay(way, what - 10);
    }

    int dearest(int what) {
        if (what != 0 && !in(what, 10, 9 + s.hours.size())) {
            return -1;
        }
        int[] way = dearestWay();
        return what == 0 ? way[1] : fromWay(way, what - 10);
    }

    int best(int what) {
        if (!in(what, 0, 2)) {
            return -1;
        }
        int most = mostWay(-1)[0];
        S before = s;
        s = before.copy();
        int answer = -5;
        if (what == 0) {
            List<Integer> sets = new ArrayList<>();
            for (int set = 0; set < 1 << s.rooms.size(); set++) {
                if (mostWay(set)[0] == most) {
                    sets.add(set);
                }
            }
            sets.sort(Comparator.<Integer>comparingInt(Integer::bitCount).thenComparingInt(x -> x));
            answer = sets.get(0);
        } else if (what == 1) {
            R r = new R();
            r.seats = 20;
            s.rooms.add(r);
            answer = mostWay(-1)[0] - most;
        } else {
            int greatest = most;
            for (int r = 0; r < before.rooms.size(); r++) {
                s = before.copy();
                s.rooms.get(r).fault = false;
                int count = mostWay(-1)[0];
                if (count > greatest) {
                    greatest = count;
                    answer = r;
                }
            }
        }
        s = before;
        return answer;
    }

    int holds(int n) {
        if (!in(n, 1, 20)) {
            return -2;
        }
        int best = -1;
        int least = -1;
        for (int hold = 12; hold >= 0; hold--) {
            forcedHold = hold;
            int waste = emptyOf(n);
            if (best < 0 || waste < least) {
                best = hold;
                least = waste;
            }
        }
        forcedHold = -1;
        return best;
    }

    int sudden(int seats, int quarter, int n) {
        if (!in(seats, 1, 20) || !in(quarter, 0, 39) || !in(n, 1, 12)) {
            return -2;
        }
        List<int[]> can = new ArrayList<>();
        for (int r = 0; r < s.rooms.size(); r++) {
            boolean is = s.rooms.get(r).seats >= seats && !s.rooms.get(r).fault;
            int free = 0;
            for (int q = quarter; q < quarter + n && q < quarters(); q++) {
                is &= !anyIn(r, s.day, q);
                free |= anyHeld(r, s.day, q) ? 1 : 0;
            }
            if (is) {
                can.add(new int[] {free, s.rooms.get(r).seats, r});
            }
        }
        can.sort(Arrays::compare);
        return can.isEmpty() ? -5 : can.get(0)[2];
    }

    int see(int room, int quarter, boolean isIn, int n) {
        if (room == -1) {
            s.seen.clear();
            return 0;
        }
        if (!hasRoom(room) || !in(quarter, 0, 39)) {
            return -1;
        }
        if (!in(n, 0, 20)) {
            return -2;
        }
        if (s.seen.size() == 6) {
            return -4;
        }
        s.seen.add(new int[] {room, quarter, isIn ? 1 : 0, n});
        return s.seen.size();
    }

    private boolean agrees() {
        for (int[] x : s.seen) {
            if (anyIn(x[0], s.day + x[3], x[1]) != (x[2] == 1)) {
                return false;
            }
        }
        return true;
    }

    int can(int hour, int what) {
        if (!hasHour(hour) || !in(what, 0, 1)) {
            return -1;
        }
        H h = s.hours.get(hour);
        int was = h.v;
        List<Integer> can = new ArrayList<>();
        for (h.v = 0; h.v < 10; h.v++) {
            if (agrees()) {
                can.add(h.v);
            }
        }
        h.v = was;
        return what == 0 ? can.size() : can.isEmpty() ? -5 : can.get(0);
    }

    int where(int hour) {
        if (!hasHour(hour)) {
            return -1;
        }
        H h = s.hours.get(hour);
        int was = h.room;
        int bits = 0;
        for (h.room = -1; h.room < s.rooms.size(); h.room++) {
            if (agrees()) {
                bits |= h.room < 0 ? 16 : 1 << h.room;
            }
        }
        h.room = was;
        return bits;
    }

    private static long lowest(int above, int below, int part) {
        for (int d = below; d > 1; d--) {
            if (above % d == 0 && below % d == 0) {
                return (part == 0 ? above : below) / d;
            }
        }
        return part == 0 ? above : below;
    }

    long odds(int room, int part) {
        return hasRoom(room) && in(part, 0, 1) ? lowest(empty(room, s.day), quarters(), part) : NO;
    }

    long mean(int n, int part) {
        return in(n, 1, 20) && in(part, 0, 1) ? lowest(emptyOf(n), n, part) : NO;
    }

    int plan(int what, int number) {
        if (what == -1) {
            s.plan.clear();
            return 0;
        }
        if (!in(what, 0, 2) || what == 1 && !hasHour(number) || what == 2 && !hasRoom(number)) {
            return -1;
        }
        if (s.plan.size() == 8) {
            return -4;
        }
        s.plan.add(new int[] {what, number});
        return s.plan.size();
    }

    int ends(int what) {
        if (!in(what, 0, 1)) {
            return -1;
        }
        S before = s;
        s = s.copy();
        for (int[] p : before.plan) {
            if (p[0] == 0) {
                s.day++;
            } else if (p[0] == 1) {
                s.hours.get(p[1]).room = -1;
            } else {
                s.rooms.get(p[1]).fault = false;
            }
        }
        int n = 0;
        for (int r = 0; r < s.rooms.size(); r++) {
            n += what == 0 ? empty(r, s.day) : free(r, s.day);
        }
        s = before;
        return n;
    }

    int book(int hour, int room) {
        if (hour == -1) {
            s.book.clear();
            return 0;
        }
        if (!hasHour(hour) || !hasRoom(room) && room != 4) {
            return -1;
        }
        if (s.book.size() == 8) {
            return -4;
        }
        s.book.add(new int[] {hour, room});
        return s.book.size();
    }

    private int roomOr4(int hour) {
        int room = s.hours.get(hour).room;
        return room < 0 ? 4 : room;
    }

    int looked() {
        for (int i = 0; i < s.book.size(); i++) {
            if (roomOr4(s.book.get(i)[0]) != s.book.get(i)[1]) {
                return i;
            }
        }
        return -5;
    }

    int judge(int tape, int i) {
        if (!in(tape, 0, 5)) {
            return -1;
        }
        if (tapes[tape] != null && !(tapes[tape] instanceof byte[])) {
            return -12;
        }
        byte[] row = tapes[tape] == null ? new byte[0] : (byte[]) tapes[tape];
        for (int h = 0; h < s.hours.size(); h++) {
            if (i < 0 || i >= row.length - h) {
                return 100 + h;
            }
            if (row[i + h] != roomOr4(h)) {
                return h;
            }
        }
        return -5;
    }

    int image() {
        image = s.copy();
        return s.hours.size();
    }

    int undo() {
        if (image == null) {
            return -3;
        }
        s = image.copy();
        return s.hours.size();
    }

    // ---- acts, as Java itself would have them

    private class HourBody {
        final int i;
        final int v;

        HourBody(int i, int v) {
            this.i = i;
            this.v = v;
        }

        int knocks(int x) {
            trace.add(10);
            return x + i;
        }

        int sits(int x) {
            trace.add(11);
            return knocks(x) - v;
        }

        int tells(int x) {
            trace.add(12);
            return sits(x) * 2;
        }
    }

    private class Busy extends HourBody {
        Busy(int i, int v) {
            super(i, v);
        }

        @Override
        int sits(int x) {
            trace.add(20);
            return super.sits(x) ^ 6;
        }
    }

    private class Ghostly extends HourBody {
        Ghostly(int i, int v) {
            super(i, v);
        }

        @Override
        int knocks(int x) {
            trace.add(30);
            return super.knocks(x * 3);
        }
    }

    private class Late extends HourBody {
        Late(int i, int v) {
            super(i, v);
        }

        @Override
        int tells(int x) {
            trace.add(40);
            return super.tells(x) + sits(1);
        }
    }

    private final class Over extends Busy {
        Over(int i, int v) {
            super(i, v);
        }

        @Override
        int knocks(int x) {
            trace.add(50);
            return -super.knocks(x);
        }

        @Override
        int sits(int x) {
            trace.add(51);
            return super.sits(x + 1);
        }
    }

    private final class Standing extends Ghostly {
        Standing(int i, int v) {
            super(i, v);
        }

        @Override
        int tells(int x) {
            trace.add(60);
            return super.tells(x - i);
        }
    }

    private final class Told extends Late {
        Told(int i, int v) {
            super(i, v);
        }

        @Override
        int sits(int x) {
            trace.add(70);
            return super.sits(x) + super.knocks(2);
        }

        @Override
        int knocks(int x) {
            trace.add(71);
            return super.knocks(x) ^ v;
        }
    }

    private HourBody body(int i) {
        int v = s.hours.get(i).v;
        return switch (s.hours.get(i).kind) {
            case 0 -> new HourBody(i, v);
            case 1 -> new Busy(i, v);
            case 2 -> new Ghostly(i, v);
            case 3 -> new Late(i, v);
            case 4 -> new Over(i, v);
            case 5 -> new Standing(i, v);
            default -> new Told(i, v);
        };
    }

    int act(int hour, int act, int x) {
        trace.clear();
        if (!hasHour(hour) || !in(act, 0, 2)) {
            return 0;
        }
        HourBody b = body(hour);
        return act == 0 ? b.knocks(x) : act == 1 ? b.sits(x) : b.tells(x);
    }

    int trace(int i) {
        return i >= 0 && i < Math.min(20, trace.size()) ? trace.get(i) : -1;
    }

    int taken(int hour, int k) {
        if (!in(k, 0, 6)) {
            return -2;
        }
        if (!hasHour(hour)) {
            return -11;
        }
        Class<?>[] kinds = {HourBody.class, Busy.class, Ghostly.class, Late.class, Over.class, Standing.class, Told.class};
        return kinds[k].isInstance(body(hour)) ? s.hours.get(hour).kind : -12;
    }

    int count(int what) {
        return in(what, 0, 7) ? new int[] {s.hours.size(), s.rooms.size(), offices.size(), s.seen.size(), s.plan.size(),
            s.book.size(), text.length(), trace.size()}[what] : -2;
    }

    // ---- tapes, as Java's own rows

    int tape(int tape, int sort, int n) {
        if (!in(tape, 0, 5)) {
            return -1;
        }
        if (sort == -1) {
            tapes[tape] = null;
            return 1;
        }
        if (!in(sort, 0, 4) || n > 60) {
            return -2;
        }
        if (n < 0) {
            return -14;
        }
        Class<?>[] sorts = {byte.class, short.class, int.class, long.class, boolean.class};
        tapes[tape] = Array.newInstance(sorts[sort], n);
        return 1;
    }

    int item(int tape, int i, long v) {
        if (!in(tape, 0, 5)) {
            return -1;
        }
        Object t = tapes[tape];
        if (t == null) {
            return -11;
        }
        if (!in(i, 0, Array.getLength(t) - 1)) {
            return -13;
        }
        if (t instanceof byte[] b) {
            b[i] = (byte) v;
        } else if (t instanceof short[] b) {
            b[i] = (short) v;
        } else if (t instanceof int[] b) {
            b[i] = (int) v;
        } else if (t instanceof long[] b) {
            b[i] = v;
        } else if (t instanceof boolean[] b) {
            b[i] = v != 0;
        }
        return 1;
    }

    long read(int tape, int i) {
        if (!in(tape, 0, 5) || tapes[tape] == null || !in(i, 0, Array.getLength(tapes[tape]) - 1)) {
            return NO;
        }
        return tapes[tape] instanceof boolean[] b ? b[i] ? 1 : 0 : Array.getLong(tapes[tape], i);
    }

    int shift(int tape, int i, int other, int j, int n) {
        if (!in(tape, 0, 5) || !in(other, 0, 5)) {
            return -1;
        }
        if (tapes[tape] == null || tapes[other] == null) {
            return -11;
        }
        if (tapes[tape].getClass() != tapes[other].getClass()) {
            return -12;
        }
        long endOfOne = (long) i + n;
        long endOfOther = (long) j + n;
        if (n < 0 || i < 0 || j < 0 || endOfOne > Array.getLength(tapes[tape])
            || endOfOther > Array.getLength(tapes[other])) {
            return -13;
        }
        long[] were = new long[n];
        for (int k = 0; k < n; k++) {
            were[k] = read(tape, i + k);
        }
        for (int k = 0; k < n; k++) {
            item(other, j + k, were[k]);
        }
        return n;
    }
}
