/** Rooms, the hours that are booked in them, and what of that stays empty. */
public final class BookedEmpty {
    public static final int NONE = -1, BAD = -2, STATE = -3, FULL = -4;
    public static final long NO = Long.MIN_VALUE;

    private static final int NOTHING = -11, CAST = -12, PLACE = -13, SIZE = -14;
    /** The document's -5: nobody, no room, none. */
    private static final int ABSENT = -5;
    private static final int NOT_ASKED = -1001;

    private static final int ROOMS = 4, HOURS = 6, OFFICES = 6, BYTES = 100, CLAUSES = 10;
    private static final int LAST_DAY = 9999, LONGEST_DAY = 40, LONGEST_HOUR = 12, GREATEST = 20;
    private static final int SEEN = 6, PLANNED = 8, BOOKS = 8;
    /** How a row of bytes or of the BOOK tells that an HOUR has no ROOM. */
    private static final int TOLD_NO_ROOM = 4;

    private static final int HOUR = 0, BUSY = 1, GHOSTLY = 2, LATE = 3, OVER = 4, STANDING = 5, TOLD = 6;
    private static final int KINDS = 7;
    /** The KIND that each KIND stands under; -1: none. */
    private static final int[] ABOVE = {-1, 0, 0, 0, 1, 2, 3};

    private final House now;
    private final House kept;
    private boolean hasImage;
    /** Where questions beginning with "were that .." are tried, so that they change nothing. */
    private final House trial;
    private final Office[] offices = new Office[OFFICES];
    private int officeCount;
    private final Reader reader;
    private final Ways ways = new Ways();
    private final Acts acts = new Acts();
    private final Tapes tapes = new Tapes();

    public BookedEmpty() {
        Office without = new Office();
        now = new House(without);
        kept = new House(without);
        trial = new House(without);
        reader = new Reader(without);
        for (int i = 0; i < OFFICES; i++) {
            offices[i] = new Office();
        }
    }

    // ---- rooms, hours, offices

    public int room(int seats) {
        if (!within(seats, 1, GREATEST)) {
            return BAD;
        }
        return now.roomCount >= ROOMS ? FULL : now.addRoom(seats);
    }

    public int hour(int kind, int v, int from, int quarters, int people) {
        if (!within(kind, 0, KINDS - 1)) {
            return NONE;
        }
        boolean asTold = within(v, 0, 9) && within(from, 0, LONGEST_DAY - 1)
            && within(quarters, 1, LONGEST_HOUR) && within(people, 1, GREATEST);
        if (!asTold) {
            return BAD;
        }
        if (now.hourCount >= HOURS) {
            return FULL;
        }
        now.hours[now.hourCount].begin(kind, v, from, quarters, people);
        return now.hourCount++;
    }

    public int of(int hour, int what) {
        if (!now.hasHour(hour)) {
            return NOT_ASKED;
        }
        Hour h = now.hours[hour];
        switch (what) {
            case 0: return h.kind;
            case 1: return h.v;
            case 2: return h.from;
            case 3: return h.quarters;
            case 4: return h.people;
            case 5: return h.room;
            case 6: return h.comes(now.day);
            case 7: return h.goes();
            case 8: return Long.bitCount(now.heldFor(h, now.day));
            default: return ofInRoom(h, what);
        }
    }

    private int ofInRoom(Hour h, int what) {
        if (what >= 20) {
            return now.hasRoom(what - 20) ? now.office.worth(h, now.rooms[what - 20]) : NOT_ASKED;
        }
        if (what >= 10 && now.hasRoom(what - 10)) {
            return bit(now.rooms[what - 10].suits(h));
        }
        return NOT_ASKED;
    }

    public int at(int room, int what) {
        if (!now.hasRoom(room)) {
            return NONE;
        }
        switch (what) {
            case 0: return now.rooms[room].seats;
            case 1: return bit(now.rooms[room].fault);
            case 2: return now.emptyIn(room, now.day);
            case 3: return now.freeIn(room, now.day);
            default: return NONE;
        }
    }

    public int fault(int room, boolean is) {
        if (!now.hasRoom(room)) {
            return NONE;
        }
        int had = bit(now.rooms[room].fault);
        now.rooms[room].fault = is;
        return had;
    }

    public int row(int hour, int part, int n) {
        if (!now.hasHour(hour) || !within(part, 0, 3)) {
            return NONE;
        }
        if (!within(n, 0, 9)) {
            return BAD;
        }
        Hour h = now.hours[hour];
        if (h.kind != TOLD) {
            return STATE;
        }
        int was = h.row[part];
        h.row[part] = n;
        return was;
    }

    public int give(int hour, int room) {
        if (!now.hasHour(hour) || room != -1 && !now.hasRoom(room)) {
            return NONE;
        }
        Hour h = now.hours[hour];
        if (room != -1 && (!now.rooms[room].suits(h) || now.clashesIn(room, h))) {
            return STATE;
        }
        int had = h.room;
        h.room = room == -1 ? ABSENT : room;
        return had;
    }

    public int inside(int room, int quarter) {
        if (!now.hasRoom(room) || !isQuarter(quarter)) {
            return NONE;
        }
        int hours = 0;
        for (int i = 0; i < now.hourCount; i++) {
            Hour h = now.hours[i];
            if (h.room == room && hasBit(now.peopleOf(h, now.day), quarter)) {
                hours |= 1 << i;
            }
        }
        return hours;
    }

    public int held(int room, int quarter) {
        if (!now.hasRoom(room) || !isQuarter(quarter)) {
            return NONE;
        }
        int hours = 0;
        for (int i = 0; i < now.hourCount; i++) {
            Hour h = now.hours[i];
            if (h.room == room && hasBit(now.heldFor(h, now.day), quarter)) {
                hours |= 1 << i;
            }
        }
        return hours;
    }

    public int feed(int sign) {
        return within(sign, 0, 127) ? reader.take(sign) : BAD;
    }

    public int office() {
        if (officeCount >= OFFICES) {
            return FULL;
        }
        // The next OFFICE's own object is read into: nobody sees it before it is counted.
        int fault = reader.readInto(offices[officeCount]);
        if (fault >= 0) {
            return -10 - fault;
        }
        now.follow(offices[officeCount]);
        return officeCount++;
    }

    public int told(int what) {
        switch (what) {
            case 0: return now.day;
            case 1: return now.hold;
            case 2: return now.office.quarters;
            case 3: return now.housed();
            case 4: return now.worthNow();
            default: return NONE;
        }
    }

    // ---- days

    public int pass(int n) {
        if (!within(n, 0, 60)) {
            return BAD;
        }
        if (now.day + n > LAST_DAY) {
            return STATE;
        }
        now.day += n;
        return now.day;
    }

    public int waste(int n) {
        return within(n, 0, 30) ? now.emptyInDays(n) : BAD;
    }

    public int on(int n, int what) {
        boolean ofHour = what >= 10 && now.hasHour(what - 10);
        boolean isEmpty = what >= 20 && now.hasRoom(what - 20);
        boolean isFree = what >= 30 && now.hasRoom(what - 30);
        if (!ofHour && !isEmpty && !isFree) {
            return NONE;
        }
        if (!within(n, 0, 60)) {
            return BAD;
        }
        int day = now.day + n;
        if (ofHour) {
            return now.hours[what - 10].comes(day);
        }
        return isEmpty ? now.emptyIn(what - 20, day) : now.freeIn(what - 30, day);
    }

    // ---- what is best

    public int most(int what) {
        if (what != 0 && what != 1 && !asksHour(what)) {
            return NONE;
        }
        int count = ways.search(now, ~0, true);
        if (what == 0) {
            return count;
        }
        return what == 1 ? ways.bestWorth : ways.best[what - 10];
    }

    public int dearest(int what) {
        if (what != 0 && !asksHour(what)) {
            return NONE;
        }
        ways.search(now, ~0, false);
        return what == 0 ? ways.bestWorth : ways.best[what - 10];
    }

    private boolean asksHour(int what) {
        return what >= 10 && now.hasHour(what - 10);
    }

    public int best(int what) {
        switch (what) {
            case 0: return roomy();
            case 1: return more();
            case 2: return mend();
            default: return NONE;
        }
    }

    private int roomy() {
        int wanted = ways.search(now, ~0, true);
        int all = (1 << now.roomCount) - 1;
        int fewest = all;
        for (int set = 0; set < all; set++) {
            if (Integer.bitCount(set) < Integer.bitCount(fewest) && ways.search(now, set, true) == wanted) {
                fewest = set;
            }
        }
        return fewest;
    }

    private int more() {
        trial.copyFrom(now);
        trial.addRoom(GREATEST);
        return ways.search(trial, ~0, true) - ways.search(now, ~0, true);
    }

    private int mend() {
        int greatest = ways.search(now, ~0, true);
        int room = ABSENT;
        trial.copyFrom(now);
        for (int r = 0; r < now.roomCount; r++) {
            trial.rooms[r].fault = false;
            int count = ways.search(trial, ~0, true);
            if (count > greatest) {
                greatest = count;
                room = r;
            }
            trial.rooms[r].fault = now.rooms[r].fault;
        }
        return room;
    }

    public int holds(int n) {
        if (!within(n, 1, 20)) {
            return BAD;
        }
        trial.copyFrom(now);
        int best = 0;
        int least = 0;
        for (int hold = 0; hold <= 12; hold++) {
            trial.hold = hold;
            int empty = trial.emptyInDays(n);
            if (hold == 0 || empty <= least) {
                least = empty;
                best = hold;
            }
        }
        return best;
    }

    public int sudden(int seats, int quarter, int n) {
        if (!within(seats, 1, GREATEST) || !isQuarter(quarter) || !within(n, 1, 12)) {
            return BAD;
        }
        long span = now.span(quarter, quarter + n);
        int best = ABSENT;
        int bestRank = 0;
        for (int r = 0; r < now.roomCount; r++) {
            Room room = now.rooms[r];
            if (room.fault || room.seats < seats || (now.peopleIn(r, now.day) & span) != 0) {
                continue;
            }
            boolean free = (now.heldIn(r, now.day) & span) == 0;
            int rank = free ? room.seats : room.seats + GREATEST;
            if (best == ABSENT || rank < bestRank) {
                bestRank = rank;
                best = r;
            }
        }
        return best;
    }

    // ---- seen, odds

    public int see(int room, int quarter, boolean isIn, int n) {
        if (room == -1) {
            return now.seen.empty();
        }
        if (!now.hasRoom(room) || !isQuarter(quarter)) {
            return NONE;
        }
        return within(n, 0, 20) ? now.seen.add(room, quarter, bit(isIn), n) : BAD;
    }

    public int can(int hour, int what) {
        if (!now.hasHour(hour) || !within(what, 0, 1)) {
            return NONE;
        }
        trial.copyFrom(now);
        int count = 0;
        int least = ABSENT;
        for (int v = 9; v >= 0; v--) {
            trial.hours[hour].v = v;
            if (trial.isAsSeen()) {
                count++;
                least = v;
            }
        }
        return what == 0 ? count : least;
    }

    public int where(int hour) {
        if (!now.hasHour(hour)) {
            return NONE;
        }
        trial.copyFrom(now);
        trial.hours[hour].room = ABSENT;
        int rooms = trial.isAsSeen() ? 16 : 0;
        for (int r = 0; r < now.roomCount; r++) {
            trial.hours[hour].room = r;
            if (trial.isAsSeen()) {
                rooms |= 1 << r;
            }
        }
        return rooms;
    }

    public long odds(int room, int part) {
        if (!now.hasRoom(room) || !within(part, 0, 1)) {
            return NO;
        }
        return inLowestTerms(now.emptyIn(room, now.day), now.office.quarters, part);
    }

    public long mean(int n, int part) {
        if (!within(n, 1, 20) || !within(part, 0, 1)) {
            return NO;
        }
        return inLowestTerms(now.emptyInDays(n), n, part);
    }

    // ---- plans, books

    public int plan(int what, int number) {
        if (what == -1) {
            return now.plan.empty();
        }
        if (!within(what, 0, 2) || what == 1 && !now.hasHour(number) || what == 2 && !now.hasRoom(number)) {
            return NONE;
        }
        return now.plan.add(what, number, 0, 0);
    }

    public int ends(int what) {
        if (!within(what, 0, 1)) {
            return NONE;
        }
        trial.copyFrom(now);
        trial.doPlan();
        return what == 0 ? trial.emptyInAll(trial.day) : trial.freeInAll(trial.day);
    }

    public int book(int hour, int room) {
        if (hour == -1) {
            return now.book.empty();
        }
        if (!now.hasHour(hour) || room != TOLD_NO_ROOM && !now.hasRoom(room)) {
            return NONE;
        }
        return now.book.add(hour, room, 0, 0);
    }

    public int looked() {
        for (int i = 0; i < now.book.size; i++) {
            int[] row = now.book.rows[i];
            if (now.hasHour(row[0]) && now.hours[row[0]].toldRoom() != row[1]) {
                return i;
            }
        }
        return ABSENT;
    }

    // ---- judging, the image, acts, tapes

    public int judge(int tape, int i) {
        if (!tapes.has(tape)) {
            return NONE;
        }
        if (!tapes.isNothing(tape) && !tapes.isBytes(tape)) {
            return CAST;
        }
        for (int h = 0; h < now.hourCount; h++) {
            // In long, so that a place near the greatest int does not wrap.
            long place = (long) i + h;
            if (i < 0 || place >= tapes.sizes[tape]) {
                return 100 + h;
            }
            if (tapes.items[tape][(int) place] != now.hours[h].toldRoom()) {
                return h;
            }
        }
        return ABSENT;
    }

    public int image() {
        kept.copyFrom(now);
        hasImage = true;
        return now.hourCount;
    }

    public int undo() {
        if (!hasImage) {
            return STATE;
        }
        now.copyFrom(kept);
        return now.hourCount;
    }

    public int act(int hour, int act, int x) {
        acts.ran = 0;
        if (!now.hasHour(hour) || !within(act, 0, 2)) {
            return 0;
        }
        Hour h = now.hours[hour];
        return acts.run(h, h.kind, act, x, 0);
    }

    public int trace(int i) {
        return i >= 0 && i < acts.ran && i < acts.bodies.length ? acts.bodies[i] : NONE;
    }

    public int taken(int hour, int k) {
        if (!within(k, 0, KINDS - 1)) {
            return BAD;
        }
        if (!now.hasHour(hour)) {
            return NOTHING;
        }
        int kind = now.hours[hour].kind;
        return isUnder(kind, k) ? kind : CAST;
    }

    private static boolean isUnder(int kind, int k) {
        int above = kind;
        for (int step = 0; step < KINDS && within(above, 0, KINDS - 1); step++) {
            if (above == k) {
                return true;
            }
            above = ABOVE[above];
        }
        return false;
    }

    public int count(int what) {
        switch (what) {
            case 0: return now.hourCount;
            case 1: return now.roomCount;
            case 2: return officeCount;
            case 3: return now.seen.size;
            case 4: return now.plan.size;
            case 5: return now.book.size;
            case 6: return reader.length;
            case 7: return acts.ran;
            default: return BAD;
        }
    }

    public int tape(int tape, int sort, int n) {
        if (!tapes.has(tape)) {
            return NONE;
        }
        if (sort == -1) {
            return tapes.holdNothing(tape);
        }
        if (!within(sort, 0, Tapes.SORTS - 1) || n > Tapes.LONGEST) {
            return BAD;
        }
        return n < 0 ? SIZE : tapes.begin(tape, sort, n);
    }

    public int item(int tape, int i, long v) {
        if (!tapes.has(tape)) {
            return NONE;
        }
        if (tapes.isNothing(tape)) {
            return NOTHING;
        }
        return tapes.hasPlace(tape, i) ? tapes.put(tape, i, v) : PLACE;
    }

    public long read(int tape, int i) {
        return tapes.has(tape) && tapes.hasPlace(tape, i) ? tapes.items[tape][i] : NO;
    }

    public int shift(int tape, int i, int other, int j, int n) {
        if (!tapes.has(tape) || !tapes.has(other)) {
            return NONE;
        }
        if (tapes.isNothing(tape) || tapes.isNothing(other)) {
            return NOTHING;
        }
        if (tapes.sorts[tape] != tapes.sorts[other]) {
            return CAST;
        }
        if (!tapes.hasRun(tape, i, n) || !tapes.hasRun(other, j, n)) {
            return PLACE;
        }
        System.arraycopy(tapes.items[tape], i, tapes.items[other], j, n);
        return n;
    }

    private static boolean within(int n, int least, int greatest) {
        return n >= least && n <= greatest;
    }

    private static boolean isQuarter(int quarter) {
        return within(quarter, 0, LONGEST_DAY - 1);
    }

    private static int bit(boolean is) {
        return is ? 1 : 0;
    }

    private static boolean hasBit(long bits, int place) {
        return (bits >> place & 1) != 0;
    }

    /** Part 0 above the line, 1 below it; below is 1 or more. */
    private static long inLowestTerms(int above, int below, int part) {
        int a = above;
        int b = below;
        for (int step = 0; step < 64 && b != 0; step++) {
            int rest = a % b;
            a = b;
            b = rest;
        }
        if (a == 0) {
            return NO;
        }
        return part == 0 ? above / a : below / a;
    }

    private static final class Room {
        final int number;
        int seats;
        boolean fault;

        Room(int number) {
            this.number = number;
        }

        /** The document's FITS. */
        boolean suits(Hour h) {
            boolean minds = h.kind == BUSY || h.kind == OVER;
            return seats >= h.people && !(minds && fault);
        }

        void copyFrom(Room other) {
            seats = other.seats;
            fault = other.fault;
        }
    }

    private static final class Hour {
        final int number;
        int kind;
        int v;
        int from;
        int quarters;
        int people;
        int room = ABSENT;
        final int[] row = new int[4];

        Hour(int number) {
            this.number = number;
        }

        void begin(int kind, int v, int from, int quarters, int people) {
            this.kind = kind;
            this.v = v;
            this.from = from;
            this.quarters = quarters;
            this.people = people;
            room = ABSENT;
            for (int i = 0; i < row.length; i++) {
                row[i] = 0;
            }
        }

        void copyFrom(Hour other) {
            begin(other.kind, other.v, other.from, other.quarters, other.people);
            room = other.room;
            for (int i = 0; i < row.length; i++) {
                row[i] = other.row[i];
            }
        }

        int comes(int day) {
            switch (kind) {
                case GHOSTLY: return ABSENT;
                case LATE: return from + v / 3;
                case STANDING: return day % (v + 2) == 0 ? from : ABSENT;
                case TOLD: return from + v / 3 + row[day & 3];
                default: return from;
            }
        }

        int goes() {
            return from + quarters + (kind == OVER ? v / 2 : 0);
        }

        int toldRoom() {
            return room == ABSENT ? TOLD_NO_ROOM : room;
        }
    }

    /** Rows told by hand: of SEEN (ROOM, quarter, is in, DAYS), the PLAN (what, number), the BOOK (HOUR, ROOM). */
    private static final class Rows {
        final int[][] rows;
        int size;

        Rows(int most) {
            rows = new int[most][4];
        }

        int empty() {
            size = 0;
            return 0;
        }

        int add(int a, int b, int c, int d) {
            if (size >= rows.length) {
                return FULL;
            }
            int[] row = rows[size];
            row[0] = a;
            row[1] = b;
            row[2] = c;
            row[3] = d;
            size++;
            return size;
        }

        void copyFrom(Rows other) {
            empty();
            for (int i = 0; i < other.size; i++) {
                int[] row = other.rows[i];
                add(row[0], row[1], row[2], row[3]);
            }
        }
    }

    /** All that THE IMAGE keeps, and what is asked of it. Quarters of a day are the bits of a long. */
    private static final class House {
        /** One more than there can be: MORE asks for it. */
        final Room[] rooms = new Room[ROOMS + 1];
        final Hour[] hours = new Hour[HOURS];
        int roomCount;
        int hourCount;
        int day;
        Office office;
        /** Beside the OFFICE's, since HOLDS tries others. */
        int hold;
        final Rows seen = new Rows(SEEN);
        final Rows plan = new Rows(PLANNED);
        final Rows book = new Rows(BOOKS);

        House(Office without) {
            office = without;
            hold = without.hold;
            for (int i = 0; i < rooms.length; i++) {
                rooms[i] = new Room(i);
            }
            for (int i = 0; i < hours.length; i++) {
                hours[i] = new Hour(i);
            }
        }

        void copyFrom(House other) {
            roomCount = other.roomCount;
            hourCount = other.hourCount;
            day = other.day;
            office = other.office;
            hold = other.hold;
            for (int i = 0; i < roomCount; i++) {
                rooms[i].copyFrom(other.rooms[i]);
            }
            for (int i = 0; i < hourCount; i++) {
                hours[i].copyFrom(other.hours[i]);
            }
            seen.copyFrom(other.seen);
            plan.copyFrom(other.plan);
            book.copyFrom(other.book);
        }

        boolean hasRoom(int r) {
            return r >= 0 && r < roomCount;
        }

        boolean hasHour(int h) {
            return h >= 0 && h < hourCount;
        }

        int addRoom(int seats) {
            if (roomCount >= rooms.length) {
                return FULL;
            }
            rooms[roomCount].seats = seats;
            rooms[roomCount].fault = false;
            return roomCount++;
        }

        void follow(Office newest) {
            office = newest;
            hold = newest.hold;
        }

        /** Quarters from one on, ahead of another, as far as the day goes. */
        long span(int from, int to) {
            int start = Math.max(from, 0);
            int end = Math.min(to, office.quarters);
            return start < end ? (1L << end) - (1L << start) : 0;
        }

        long booked(Hour h) {
            return span(h.from, h.from + h.quarters);
        }

        long heldFor(Hour h, int day) {
            int comes = h.comes(day);
            int until = h.from + hold;
            int end = h.from + h.quarters;
            boolean isGivenUp = comes == ABSENT || comes > until;
            return span(h.from, isGivenUp ? Math.min(end, until) : end);
        }

        long peopleOf(Hour h, int day) {
            int comes = h.comes(day);
            return comes == ABSENT ? 0 : span(comes, h.goes());
        }

        boolean clashesIn(int room, Hour h) {
            for (int i = 0; i < hourCount; i++) {
                if (i != h.number && hours[i].room == room && (booked(hours[i]) & booked(h)) != 0) {
                    return true;
                }
            }
            return false;
        }

        long heldIn(int room, int day) {
            long all = 0;
            for (int i = 0; i < hourCount; i++) {
                if (hours[i].room == room) {
                    all |= heldFor(hours[i], day);
                }
            }
            return all;
        }

        long peopleIn(int room, int day) {
            long all = 0;
            for (int i = 0; i < hourCount; i++) {
                if (hours[i].room == room) {
                    all |= peopleOf(hours[i], day);
                }
            }
            return all;
        }

        int emptyIn(int room, int day) {
            return Long.bitCount(heldIn(room, day) & ~peopleIn(room, day));
        }

        int freeIn(int room, int day) {
            return office.quarters - Long.bitCount(heldIn(room, day) | peopleIn(room, day));
        }

        int emptyInAll(int day) {
            int sum = 0;
            for (int r = 0; r < roomCount; r++) {
                sum += emptyIn(r, day);
            }
            return sum;
        }

        int freeInAll(int day) {
            int sum = 0;
            for (int r = 0; r < roomCount; r++) {
                sum += freeIn(r, day);
            }
            return sum;
        }

        int emptyInDays(int n) {
            int sum = 0;
            for (int i = 0; i < n; i++) {
                sum += emptyInAll(day + i);
            }
            return sum;
        }

        int housed() {
            int sum = 0;
            for (int i = 0; i < hourCount; i++) {
                sum += bit(hasRoom(hours[i].room));
            }
            return sum;
        }

        int worthNow() {
            int sum = 0;
            for (int i = 0; i < hourCount; i++) {
                if (hasRoom(hours[i].room)) {
                    sum += office.worth(hours[i], rooms[hours[i].room]);
                }
            }
            return sum;
        }

        boolean isAsSeen() {
            for (int i = 0; i < seen.size; i++) {
                int[] row = seen.rows[i];
                boolean isIn = hasBit(peopleIn(row[0], day + row[3]), row[1]);
                if (bit(isIn) != row[2]) {
                    return false;
                }
            }
            return true;
        }

        void doPlan() {
            for (int i = 0; i < plan.size; i++) {
                int what = plan.rows[i][0];
                int number = plan.rows[i][1];
                if (what == 0) {
                    day++;
                } else if (what == 1 && hasHour(number)) {
                    hours[number].room = ABSENT;
                } else if (what == 2 && hasRoom(number)) {
                    rooms[number].fault = false;
                }
            }
        }
    }

    /** What an OFFICE says. Each E stands in the code behind its parts: the tests, then what joins them. */
    private static final class Office {
        static final int NOT = -1, AND = -2, OR = -3;
        static final int SIGNS = 3, NUMBERS = 100;

        int hold = 2;
        int quarters = LONGEST_DAY;
        private int wishes;
        /** The n of a like, or less the n of a mind. */
        private final int[] weights = new int[CLAUSES];
        private final int[] ends = new int[CLAUSES];
        private final int[] code = new int[BYTES];
        private int size;

        void clear() {
            hold = 2;
            quarters = LONGEST_DAY;
            wishes = 0;
            size = 0;
        }

        void put(int step) {
            if (size < code.length) {
                code[size] = step;
                size++;
            }
        }

        void putTest(int letter, int sign, int n) {
            put((letter * SIGNS + sign) * NUMBERS + n);
        }

        void endWish(int weight) {
            if (wishes < CLAUSES) {
                weights[wishes] = weight;
                ends[wishes] = size;
                wishes++;
            }
        }

        int worth(Hour h, Room r) {
            int sum = 10;
            int start = 0;
            for (int i = 0; i < wishes; i++) {
                if (isSo(start, ends[i], h, r)) {
                    sum += weights[i];
                }
                start = ends[i];
            }
            return Math.max(sum, 0);
        }

        /** What is not joined yet waits in the bits of a number, the latest lowest: 11 at most, by the depth of 4. */
        private boolean isSo(int start, int end, Hour h, Room r) {
            int waiting = 0;
            for (int i = start; i < end; i++) {
                int step = code[i];
                if (step == NOT) {
                    waiting ^= 1;
                } else if (step == AND) {
                    waiting = waiting >> 1 & (waiting | ~1);
                } else if (step == OR) {
                    waiting = waiting >> 1 | waiting & 1;
                } else {
                    waiting = waiting << 1 | bit(isTrue(step, number(step / NUMBERS / SIGNS, h, r)));
                }
            }
            return (waiting & 1) != 0;
        }

        private static boolean isTrue(int test, int number) {
            int n = test % NUMBERS;
            int sign = test / NUMBERS % SIGNS;
            if (sign == 0) {
                return number < n;
            }
            return sign == 1 ? number == n : number > n;
        }

        /** By the place of the letter in Reader.LETTERS. */
        private static int number(int letter, Hour h, Room r) {
            switch (letter) {
                case 0: return h.number;
                case 1: return r.number;
                case 2: return h.kind;
                case 3: return h.v;
                case 4: return h.people;
                default: return r.seats;
            }
        }
    }

    /** THE TEXT. Once it has failed no sign is taken any more, so that place stays at the FAULT. */
    private static final class Reader {
        static final String LETTERS = "hrkvps", COMPARES = "<=>";
        static final int DEEPEST = 4;

        private final byte[] text = new byte[BYTES];
        int length;
        private int place;
        private boolean failed;
        private Office into;

        Reader(Office first) {
            into = first;
        }

        int take(int sign) {
            if (length >= BYTES) {
                return FULL;
            }
            text[length] = (byte) sign;
            length++;
            return length;
        }

        /** The FAULT, or -1; THE TEXT is empty then. */
        int readInto(Office office) {
            into = office;
            into.clear();
            place = 0;
            failed = false;
            clause();
            for (int n = 1; n < CLAUSES && takes(';'); n++) {
                clause();
            }
            boolean isWhole = !failed && place == length;
            length = 0;
            return isWhole ? -1 : place;
        }

        private int sign() {
            return failed || place >= length ? -1 : text[place];
        }

        private boolean takes(int wanted) {
            if (sign() != wanted) {
                return false;
            }
            place++;
            return true;
        }

        private void expects(int wanted) {
            if (sign() == wanted) {
                place++;
            } else {
                failed = true;
            }
        }

        private void clause() {
            int first = sign();
            word(first);
            int n = number();
            if (first == 'h') {
                into.hold = n;
            } else if (first == 'd') {
                into.quarters = Math.max(1, Math.min(n, LONGEST_DAY));
            } else {
                expects(' ');
                either(0);
                into.endWish(first == 'l' ? n : -n);
            }
        }

        private void word(int first) {
            String word = wordBy(first);
            if (word.isEmpty()) {
                failed = true;
            }
            for (int i = 0; i < word.length(); i++) {
                expects(word.charAt(i));
            }
        }

        private static String wordBy(int first) {
            switch (first) {
                case 'l': return "like ";
                case 'm': return "mind ";
                case 'h': return "hold ";
                case 'd': return "day ";
                default: return "";
            }
        }

        /** An E; depth tells within how many ( and ! it stands. */
        private void either(int depth) {
            both(depth);
            for (int n = 0; n < BYTES && takes('|'); n++) {
                both(depth);
                into.put(Office.OR);
            }
        }

        private void both(int depth) {
            one(depth);
            for (int n = 0; n < BYTES && takes('&'); n++) {
                one(depth);
                into.put(Office.AND);
            }
        }

        private void one(int depth) {
            if (depth < DEEPEST && takes('!')) {
                one(depth + 1);
                into.put(Office.NOT);
            } else if (depth < DEEPEST && takes('(')) {
                either(depth + 1);
                expects(')');
            } else {
                int letter = oneOf(LETTERS);
                int compare = oneOf(COMPARES);
                into.putTest(letter, compare, number());
            }
        }

        private int oneOf(String signs) {
            int sign = sign();
            int found = sign < 0 ? -1 : signs.indexOf((char) sign);
            if (found < 0) {
                failed = true;
                return 0;
            }
            place++;
            return found;
        }

        private int number() {
            int first = sign() - '0';
            if (first < 0 || first > 9) {
                failed = true;
                return 0;
            }
            place++;
            int second = sign() - '0';
            if (second < 0 || second > 9) {
                return first;
            }
            place++;
            return first * 10 + second;
        }
    }

    /** All WAYS, one by one, as rows by HOURS: lesser ROOMS first, none last; so the first of the best is kept. */
    private static final class Ways {
        private int hours;
        private int rooms;
        private boolean byCount;
        private final int[] fitting = new int[HOURS];
        private final long[] booked = new long[HOURS];
        private final int[][] worths = new int[HOURS][ROOMS + 1];
        private final long[] full = new long[ROOMS + 1];
        private final int[] way = new int[HOURS];
        final int[] best = new int[HOURS];
        private int bestCount;
        int bestWorth;

        /** Of the ROOMS that are allowed (bits); byCount: most HOURS go ahead of WORTH. How many HOURS have one. */
        int search(House house, int allowed, boolean byCount) {
            hours = house.hourCount;
            rooms = house.roomCount;
            this.byCount = byCount;
            bestCount = -1;
            bestWorth = -1;
            for (int h = 0; h < hours; h++) {
                lookAt(house, house.hours[h], allowed);
            }
            goOn(0, 0, 0);
            return bestCount;
        }

        private void lookAt(House house, Hour hour, int allowed) {
            int h = hour.number;
            booked[h] = house.booked(hour);
            fitting[h] = 0;
            for (int r = 0; r < rooms; r++) {
                worths[h][r] = house.office.worth(hour, house.rooms[r]);
                if (house.rooms[r].suits(hour)) {
                    fitting[h] |= allowed & 1 << r;
                }
            }
        }

        private void goOn(int h, int count, int worth) {
            if (byCount && count + hours - h < bestCount) {
                return;
            }
            if (h >= hours) {
                keepBetter(count, worth);
                return;
            }
            for (int r = 0; r < rooms; r++) {
                if ((fitting[h] >> r & 1) != 0 && (full[r] & booked[h]) == 0) {
                    way[h] = r;
                    full[r] |= booked[h];
                    goOn(h + 1, count + 1, worth + worths[h][r]);
                    full[r] &= ~booked[h];
                }
            }
            way[h] = ABSENT;
            goOn(h + 1, count, worth);
        }

        private void keepBetter(int count, int worth) {
            boolean isBetter = byCount
                ? count > bestCount || count == bestCount && worth > bestWorth
                : worth > bestWorth;
            if (isBetter) {
                bestCount = count;
                bestWorth = worth;
                System.arraycopy(way, 0, best, 0, HOURS);
            }
        }
    }

    private static final class Acts {
        static final int KNOCKS = 0, SITS = 1, TELLS = 2, ACTS = 3;
        static final int DEEPEST = 40;
        /** By KIND, then act; 0: this KIND has no such body. */
        static final int[] BODIES = {
            10, 11, 12,
            0, 20, 0,
            30, 0, 0,
            0, 0, 40,
            50, 51, 0,
            0, 0, 60,
            71, 70, 0,
        };

        final int[] bodies = new int[20];
        /** All bodies that ran, also those beyond the kept ones. */
        int ran;

        /** The body of a KIND, or of the next above that has one. */
        private int run(Hour h, int kind, int act, int x, int depth) {
            int owner = owner(kind, act);
            if (owner < 0 || depth > DEEPEST) {
                return 0;
            }
            int body = BODIES[owner * ACTS + act];
            begin(body);
            int up = ABOVE[owner];
            int d = depth + 1;
            switch (body) {
                case 10: return x + h.number;
                case 11: return run(h, h.kind, KNOCKS, x, d) - h.v;
                case 12: return run(h, h.kind, SITS, x, d) * 2;
                case 20: return run(h, up, SITS, x, d) ^ 6;
                case 30: return run(h, up, KNOCKS, x * 3, d);
                case 40: return run(h, up, TELLS, x, d) + run(h, h.kind, SITS, 1, d);
                case 50: return -run(h, up, KNOCKS, x, d);
                case 51: return run(h, up, SITS, x + 1, d);
                case 60: return run(h, up, TELLS, x - h.number, d);
                case 70: return run(h, up, SITS, x, d) + run(h, up, KNOCKS, 2, d);
                case 71: return run(h, up, KNOCKS, x, d) ^ h.v;
                default: return 0;
            }
        }

        private static int owner(int kind, int act) {
            int owner = kind;
            for (int step = 0; step < KINDS && owner >= 0; step++) {
                if (BODIES[owner * ACTS + act] != 0) {
                    return owner;
                }
                owner = ABOVE[owner];
            }
            return -1;
        }

        private void begin(int body) {
            if (ran < bodies.length) {
                bodies[ran] = body;
            }
            ran++;
        }
    }

    private static final class Tapes {
        static final int TAPES = 6, LONGEST = 60, SORTS = 5;
        static final int BYTE = 0, SHORT = 1, INT = 2, LONG = 3, HOLDS_NOTHING = -1;

        /** Of whatever sort, an item stands in a long as its own sort would read it. */
        final long[][] items = new long[TAPES][LONGEST];
        final int[] sorts = new int[TAPES];
        final int[] sizes = new int[TAPES];

        Tapes() {
            for (int i = 0; i < TAPES; i++) {
                sorts[i] = HOLDS_NOTHING;
            }
        }

        boolean has(int tape) {
            return tape >= 0 && tape < TAPES;
        }

        boolean isNothing(int tape) {
            return sorts[tape] == HOLDS_NOTHING;
        }

        boolean isBytes(int tape) {
            return sorts[tape] == BYTE;
        }

        boolean hasPlace(int tape, int i) {
            return i >= 0 && i < sizes[tape];
        }

        boolean hasRun(int tape, int i, int n) {
            return i >= 0 && n >= 0 && (long) i + n <= sizes[tape];
        }

        int holdNothing(int tape) {
            sorts[tape] = HOLDS_NOTHING;
            sizes[tape] = 0;
            return 1;
        }

        int begin(int tape, int sort, int n) {
            sorts[tape] = sort;
            sizes[tape] = n;
            for (int i = 0; i < LONGEST; i++) {
                items[tape][i] = 0;
            }
            return 1;
        }

        int put(int tape, int i, long v) {
            items[tape][i] = asItem(sorts[tape], v);
            return 1;
        }

        private static long asItem(int sort, long v) {
            switch (sort) {
                case BYTE: return (byte) v;
                case SHORT: return (short) v;
                case INT: return (int) v;
                case LONG: return v;
                default: return bit(v != 0);
            }
        }
    }
}
