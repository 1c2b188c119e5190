/** A dim hall of rows by an aisle, its souls with stubs, and the fuss of showing them in. */
public final class UsherRows {
    public static final int NONE = -1, BAD = -2, NO = -3, FULL = -4;

    private static final int ROWS = 5, SEATS = 6, CELLS = 30, SOULS = 7, KINDS = 6;
    private static final int LAST_MINUTE = 9999, MOST_FUSS = 999999, TEXT_BYTES = 150;
    private static final int NOT_SO_MANY = -5, BAD_PLACE = -10;
    private static final int NO_BEST = -1000, BAD_BEST = -1001, SITS_BEST = -1002;

    private final Hall now = new Hall();
    // What is only tried out happens here, so that 'now' stays.
    private final Hall trial = new Hall();
    private final Hall[] images = {new Hall(), new Hall()};
    private final boolean[] kept = new boolean[2];
    private final Text text = new Text();
    private final Plan plan = new Plan();
    private final Tally tally = new Tally();
    private long above;
    private long below = 1;
    private int badCalls;
    private int noCalls;
    private int fullCalls;

    public UsherRows() {
    }

    // ---- a hall

    public int hall() {
        int before = now.souls;
        now.reset();
        return before;
    }

    public int row(int r, int kind) {
        if (!within(r, ROWS) || !within(kind, KINDS)) {
            return refuseBad(BAD);
        }
        int before = now.rowKinds[r];
        now.rowKinds[r] = kind;
        now.past.empty();
        return before;
    }

    public int soul(int kind, int stub) {
        if (!within(kind, KINDS) || !within(stub, CELLS)) {
            return refuseBad(BAD);
        }
        if (now.souls >= SOULS) {
            return refuseFull();
        }
        now.past.empty();
        return now.addSoul(kind, stub);
    }

    public int type(int c) {
        if (c < 0 || c > 127) {
            return refuseBad(BAD);
        }
        return text.isFull() ? refuseFull() : text.add(c);
    }

    public int clear() {
        return text.empty();
    }

    public int read() {
        int items = text.readAll();
        if (items > 0) {
            now.takeFrom(text.hall);
        }
        return items;
    }

    // ---- showing in

    public int shows(int i, int c) {
        if (!now.isSoul(i) || !within(c, CELLS)) {
            return refuseBad(BAD);
        }
        if (now.sits(i) || !now.isFree(c) || now.minute >= LAST_MINUTE) {
            return refuseNo(NO);
        }
        now.remember();
        return now.showIn(i, c);
    }

    public int moves(int i, int c) {
        if (!now.isSoul(i) || !within(c, CELLS)) {
            return refuseBad(BAD);
        }
        if (!now.sits(i) || !now.isFree(c) || now.minute >= LAST_MINUTE) {
            return refuseNo(NO);
        }
        now.remember();
        return now.moveTo(i, c);
    }

    public int sends(int i) {
        if (!now.isSoul(i)) {
            return refuseBad(BAD);
        }
        if (!now.sits(i) || now.minute >= LAST_MINUTE) {
            return refuseNo(NO);
        }
        now.remember();
        return now.sendOut(i);
    }

    public int coat(int c, int is) {
        if (!within(c, CELLS) || !within(is, 2)) {
            return refuseBad(BAD);
        }
        if (now.hasCoat(c) == (is == 1) || now.sitterAt(c) != NONE) {
            return refuseNo(NO);
        }
        now.remember();
        now.coats ^= 1 << c;
        return 1;
    }

    public int minutes(int n) {
        if (n < 1 || n > 99) {
            return refuseBad(BAD);
        }
        now.remember();
        now.minute = Math.min(LAST_MINUTE, now.minute + n);
        return now.minute;
    }

    public int undo() {
        if (now.past.size == 0) {
            return refuseNo(NO);
        }
        now.goBack();
        return now.minute;
    }

    public int of(int i, int what) {
        if (!now.isSoul(i) || !within(what, 3)) {
            return refuseBad(BAD);
        }
        switch (what) {
            case 0: return now.soulKinds[i];
            case 1: return now.stubs[i];
            default: return now.cells[i];
        }
    }

    public int about(int c, int what) {
        if (!within(c, CELLS) || !within(what, 5)) {
            return refuseBad(BAD);
        }
        switch (what) {
            case 0: return now.rowKinds[c / SEATS];
            case 1: return now.sitterAt(c);
            case 2: return now.hasCoat(c) ? 1 : 0;
            case 3: return now.kneesTo(c);
            default: return now.sightFrom(c);
        }
    }

    // ---- fuss

    public int makes(int i, int c) {
        if (!now.isSoul(i) || !within(c, CELLS)) {
            return refuseBad(BAD);
        }
        if (now.sits(i)) {
            return refuseNo(NO);
        }
        return now.fussTo(i, c);
    }

    public int order(int k) {
        if (k < NONE) {
            return refuseBad(BAD_PLACE);
        }
        plan.prepare(now);
        if (k == NONE) {
            return plan.leastFuss();
        }
        return k < plan.size() ? plan.whoComes(now, k) : NOT_SO_MANY;
    }

    public int best(int i, int what) {
        if (!now.isSoul(i) || !within(what, 2)) {
            return refuseBad(BAD_BEST);
        }
        if (now.sits(i)) {
            return refuseNo(SITS_BEST);
        }
        int cell = bestCell(i);
        if (what == 0) {
            return cell;
        }
        return cell == NONE ? NO_BEST : worth(i, cell);
    }

    public int beside(int a, int b, int what) {
        if (!now.isSoul(a) || !now.isSoul(b) || a == b || !within(what, 2)) {
            return refuseBad(BAD);
        }
        if (now.sits(a) || now.sits(b)) {
            return refuseNo(NO);
        }
        int first = firstPlaceBeside(a, b);
        if (first == NONE || what == 1) {
            return first;
        }
        return fussBeside(a, b, first / 100, first % 100);
    }

    public int wrong() {
        int bits = 0;
        for (int i = 0; i < now.souls; i++) {
            if (now.sits(i) && now.cells[i] != now.stubs[i]) {
                bits |= 1 << i;
            }
        }
        return bits;
    }

    public int swaps() {
        return Muddle.fewestSwaps(now);
    }

    // ---- where it was

    public int seen(int i, int t, int x) {
        if (!now.isSoul(i) || !within(t, 100) || !within(x, 41)) {
            return refuseBad(BAD);
        }
        return now.sightings.isFull() ? refuseFull() : now.sightings.add(i, t, x);
    }

    public int where(int i, int k) {
        if (!now.isSoul(i) || k < NONE) {
            return refuseBad(BAD_PLACE);
        }
        int fitting = cellsThatFit(i);
        int found = 0;
        for (int c = 0; c < CELLS; c++) {
            if (has(fitting, c)) {
                if (found == k) {
                    return c;
                }
                found++;
            }
        }
        return k == NONE ? found : NOT_SO_MANY;
    }

    public int tell(int i) {
        if (!now.isSoul(i)) {
            return refuseBad(BAD);
        }
        int fitting = cellsThatFit(i);
        int bestMinute = NONE;
        int fewest = CELLS + 1;
        for (int t = 0; t < 20; t++) {
            int most = mostCellsAlike(fitting, now.soulKinds[i], t);
            if (most > 0 && most < fewest) {
                fewest = most;
                bestMinute = t;
            }
        }
        return bestMinute;
    }

    public int note(int r, int s, int x) {
        if (!within(r, ROWS) || !within(s, SEATS) || !within(x, 21)) {
            return refuseBad(BAD);
        }
        return now.notes.isFull() ? refuseFull() : now.notes.add(r, s, x);
    }

    public int mark(int i, int k, int t, int x) {
        if (!now.isSoul(i) || !within(k, SEATS) || !within(t, 100) || !within(x, 41)) {
            return refuseBad(BAD);
        }
        return now.marks.isFull() ? refuseFull() : now.marks.add(i, k, t, x);
    }

    public int forget(int what) {
        switch (what) {
            case 0: return now.sightings.empty();
            case 1: return now.notes.empty();
            case 2: return now.marks.empty();
            default: return refuseBad(BAD);
        }
    }

    public int is(int r) {
        return within(r, ROWS) ? rowKindsThatFit(r) : refuseBad(BAD);
    }

    public int look(int r) {
        if (!within(r, ROWS)) {
            return refuseBad(BAD);
        }
        int fitting = rowKindsThatFit(r);
        int bestSeat = NONE;
        int fewest = KINDS + 1;
        for (int s = 0; s < SEATS; s++) {
            int most = mostRowKindsAlike(fitting, s);
            if (most > 0 && most < fewest) {
                fewest = most;
                bestSeat = s;
            }
        }
        return bestSeat;
    }

    public int kinds(int i) {
        return now.isSoul(i) ? soulKindsThatFit(i) : refuseBad(BAD);
    }

    public int ask(int i) {
        if (!now.isSoul(i)) {
            return refuseBad(BAD);
        }
        int fitting = soulKindsThatFit(i);
        int bestQuestion = NONE;
        int fewest = KINDS + 1;
        for (int k = 0; k < SEATS; k++) {
            for (int t = 0; t <= 10; t++) {
                int most = mostSoulKindsAlike(fitting, k, t);
                if (most > 0 && most < fewest) {
                    fewest = most;
                    bestQuestion = 100 * k + t;
                }
            }
        }
        return bestQuestion;
    }

    public int whispers(int a, int b, int c) {
        if (!now.isSoul(a) || !now.isSoul(b) || a == b || !within(c, CELLS)) {
            return refuseBad(BAD);
        }
        int alone = now.sightFrom(c);
        int shared = alone / 2;
        int left = 2;
        int clashOfA = -now.fussTo(a, c);
        int clashOfB = -now.fussTo(b, c);
        int rests = 0;
        if (shared >= alone) {
            rests |= 1;
        }
        if (alone >= shared && left >= clashOfB) {
            rests |= 2;
        }
        if (alone >= shared && left >= clashOfA) {
            rests |= 4;
        }
        if (clashOfA >= left && clashOfB >= left) {
            rests |= 8;
        }
        return rests;
    }

    public int wet(int i, int c) {
        if (!now.isSoul(i) || !within(c, 11)) {
            return refuseBad(BAD);
        }
        if (now.sits(i)) {
            return refuseNo(NO);
        }
        int stub = now.stubs[i];
        int misread = stub + SEATS < CELLS ? stub + SEATS : stub;
        setTenths((10 - c) * now.fussTo(i, stub) + c * now.fussTo(i, misread));
        return 1;
    }

    public int evenings(int seed, int n) {
        if (!within(seed, 1000000) || !within(n, 61)) {
            return refuseBad(BAD);
        }
        trial.takeFrom(now);
        long x = seed;
        int more = 0;
        for (int step = 0; step < n; step++) {
            x = (x * 1103515245L + 12345L) % 2147483648L;
            more += trial.liveThrough((int) (x / 65536L % SOULS), (int) (x / 1048576L % CELLS));
        }
        return more;
    }

    // ---- what there is

    public long part(int what) {
        switch (what) {
            case 0: return above;
            case 1: return below;
            default: return refuseBad(BAD);
        }
    }

    public int image(int i) {
        if (!within(i, images.length)) {
            return refuseBad(BAD);
        }
        images[i].takeFrom(now);
        kept[i] = true;
        return 1;
    }

    public int from(int i) {
        if (!within(i, images.length)) {
            return refuseBad(BAD);
        }
        if (!kept[i]) {
            return refuseNo(NO);
        }
        now.takeFrom(images[i]);
        return 1;
    }

    public int status(int what) {
        switch (what) {
            case 0: return badCalls;
            case 1: return noCalls;
            case 2: return fullCalls;
            default: return refuseBad(NONE);
        }
    }

    public int count(int what) {
        return within(what, 10) ? howMany(what) : refuseBad(BAD);
    }

    public long digest() {
        long h = 1699;
        for (int what = 0; what < 10; what++) {
            h = 31 * h + howMany(what);
        }
        h = now.mixInto(h);
        h = 31 * h + above;
        return 31 * h + below;
    }

    // ---- what the calls share

    private static boolean within(int number, int end) {
        return number >= 0 && number < end;
    }

    private static boolean has(int bits, int n) {
        return (bits >> n & 1) == 1;
    }

    private int refuseBad(int answer) {
        badCalls++;
        return answer;
    }

    private int refuseNo(int answer) {
        noCalls++;
        return answer;
    }

    private int refuseFull() {
        fullCalls++;
        return FULL;
    }

    private int howMany(int what) {
        switch (what) {
            case 0: return now.souls;
            case 1: return now.howManySit();
            case 2: return Integer.bitCount(now.coats);
            case 3: return now.minute;
            case 4: return now.fuss;
            case 5: return now.sightings.size;
            case 6: return now.notes.size;
            case 7: return now.marks.size;
            case 8: return now.past.size;
            default: return text.length;
        }
    }

    private int worth(int i, int c) {
        return now.sightFrom(c) - now.fussTo(i, c);
    }

    private int bestCell(int i) {
        int cell = NONE;
        for (int c = 0; c < CELLS; c++) {
            if (now.isFree(c) && (cell == NONE || worth(i, c) > worth(i, cell))) {
                cell = c;
            }
        }
        return cell;
    }

    /** 100 times a's cell and b's; as places are tried rising, the first of like ones is the least. */
    private int firstPlaceBeside(int a, int b) {
        int place = NONE;
        for (int c = 0; c < CELLS; c++) {
            for (int d = c - 1; d <= c + 1; d += 2) {
                if (areFreeNeighbours(c, d)
                        && (place == NONE || fussBeside(a, b, c, d) < fussBeside(a, b, place / 100, place % 100))) {
                    place = 100 * c + d;
                }
            }
        }
        return place;
    }

    private boolean areFreeNeighbours(int c, int d) {
        return within(c, CELLS) && within(d, CELLS) && c / SEATS == d / SEATS && now.isFree(c) && now.isFree(d);
    }

    private int fussBeside(int a, int b, int cellOfA, int cellOfB) {
        int kneesOfA = cellOfA < cellOfB ? 1 : 0;
        return now.fussTo(a, cellOfA)
                + Kinds.fuss(now.soulKinds[b], now.kneesTo(cellOfB) + kneesOfA, now.minute + 1);
    }

    private int cellsThatFit(int i) {
        int bits = 0;
        for (int c = 0; c < CELLS; c++) {
            if (now.isFree(c) && fitsSightings(i, now.kneesTo(c))) {
                bits |= 1 << c;
            }
        }
        return bits;
    }

    private boolean fitsSightings(int i, int knees) {
        for (int s = 0; s < now.sightings.size; s++) {
            if (now.sightings.at(s, 0) == i
                    && Kinds.fuss(now.soulKinds[i], knees, now.sightings.at(s, 1)) != now.sightings.at(s, 2)) {
                return false;
            }
        }
        return true;
    }

    private int mostCellsAlike(int fitting, int kind, int minute) {
        tally.reset();
        for (int c = 0; c < CELLS; c++) {
            if (has(fitting, c)) {
                tally.add(Kinds.fuss(kind, now.kneesTo(c), minute));
            }
        }
        return tally.most;
    }

    private int rowKindsThatFit(int r) {
        int bits = 0;
        for (int kind = 0; kind < KINDS; kind++) {
            if (fitsNotes(r, kind)) {
                bits |= 1 << kind;
            }
        }
        return bits;
    }

    private boolean fitsNotes(int r, int kind) {
        for (int n = 0; n < now.notes.size; n++) {
            if (now.notes.at(n, 0) == r && Kinds.sight(kind, now.notes.at(n, 1)) != now.notes.at(n, 2)) {
                return false;
            }
        }
        return true;
    }

    private int mostRowKindsAlike(int fitting, int seat) {
        tally.reset();
        for (int kind = 0; kind < KINDS; kind++) {
            if (has(fitting, kind)) {
                tally.add(Kinds.sight(kind, seat));
            }
        }
        return tally.most;
    }

    private int soulKindsThatFit(int i) {
        int bits = 0;
        for (int kind = 0; kind < KINDS; kind++) {
            if (fitsMarks(i, kind)) {
                bits |= 1 << kind;
            }
        }
        return bits;
    }

    private boolean fitsMarks(int i, int kind) {
        for (int m = 0; m < now.marks.size; m++) {
            if (now.marks.at(m, 0) == i
                    && Kinds.fuss(kind, now.marks.at(m, 1), now.marks.at(m, 2)) != now.marks.at(m, 3)) {
                return false;
            }
        }
        return true;
    }

    private int mostSoulKindsAlike(int fitting, int knees, int minute) {
        tally.reset();
        for (int kind = 0; kind < KINDS; kind++) {
            if (has(fitting, kind)) {
                tally.add(Kinds.fuss(kind, knees, minute));
            }
        }
        return tally.most;
    }

    /** THE FRACTION becomes so many tenths; only what divides 10 can be cut out of both. */
    private void setTenths(int tenths) {
        for (int d = 10; d >= 1; d--) {
            if (10 % d == 0 && tenths % d == 0) {
                above = tenths / d;
                below = 10 / d;
                return;
            }
        }
    }

    /** What the kinds of rows and of souls say, each by the one that it is under. */
    private static final class Kinds {
        private static final int PILLAR = 1, BOX = 2, ROOF = 3, ICES = 4, FRONT = 5;
        private static final int RESTLESS = 1, LATE = 2, BISHOP = 3, COUPLE = 4, MOON = 5;

        static int sight(int kind, int seat) {
            int plain = 9 - Math.abs(2 * seat - 5);
            int pillar = seat == 2 ? 0 : plain;
            int box = plain + 4;
            switch (kind) {
                case PILLAR: return pillar;
                case BOX: return box;
                case ROOF: return plain / 2;
                case ICES: return Math.max(0, pillar - 2);
                case FRONT: return Math.max(0, box - 2 * seat);
                default: return plain;
            }
        }

        static int fuss(int kind, int knees, int minute) {
            int restless = knees + 2;
            int late = minute >= 10 ? 2 * knees : knees;
            switch (kind) {
                case RESTLESS: return restless;
                case LATE: return late;
                case BISHOP: return (knees + 1) / 2;
                case COUPLE: return restless - 1;
                case MOON: return knees >= 1 ? late + 3 : late;
                default: return knees;
            }
        }
    }

    /** Rows of numbers, so many at most, made once and used again. */
    private static final class Table {
        private final int limit;
        private final int width;
        private final int[] numbers;
        int size;

        Table(int limit, int width) {
            this.limit = Math.max(0, limit);
            this.width = Math.max(0, width);
            numbers = new int[this.limit * this.width];
        }

        boolean isFull() {
            return size >= limit;
        }

        int empty() {
            int before = size;
            size = 0;
            return before;
        }

        int add(int a, int b, int c) {
            openRow();
            put(0, a);
            put(1, b);
            put(2, c);
            return size;
        }

        int add(int a, int b, int c, int d) {
            add(a, b, c);
            put(3, d);
            return size;
        }

        void openRow() {
            if (size < limit) {
                size++;
            }
        }

        void dropFirst() {
            if (size > 0) {
                size--;
                System.arraycopy(numbers, width, numbers, 0, size * width);
            }
        }

        void dropLast() {
            if (size > 0) {
                size--;
            }
        }

        void put(int column, int number) {
            if (size > 0 && within(column, width)) {
                numbers[(size - 1) * width + column] = number;
            }
        }

        int at(int line, int column) {
            return within(line, size) && within(column, width) ? numbers[line * width + column] : NONE;
        }

        void takeFrom(Table other) {
            int cells = Math.min(numbers.length, other.numbers.length);
            System.arraycopy(other.numbers, 0, numbers, 0, cells);
            size = Math.min(limit, other.size);
        }

        long mixInto(long h) {
            long mixed = h;
            for (int n = 0; n < size * width; n++) {
                mixed = 31 * mixed + numbers[n];
            }
            return mixed;
        }
    }

    /** All that an image keeps. Its callers give souls that are there, and cells 0 to 29. */
    private static final class Hall {
        private static final int COATS_AT = SOULS, FUSS_AT = SOULS + 1, MINUTE_AT = SOULS + 2;

        final int[] rowKinds = new int[ROWS];
        final int[] soulKinds = new int[SOULS];
        final int[] stubs = new int[SOULS];
        final int[] cells = new int[SOULS];
        int souls;
        int coats;
        int minute;
        int fuss;
        final Table sightings = new Table(5, 3);
        final Table notes = new Table(6, 3);
        final Table marks = new Table(6, 4);
        final Table past = new Table(8, SOULS + 3);

        void reset() {
            for (int r = 0; r < ROWS; r++) {
                rowKinds[r] = 0;
            }
            souls = 0;
            coats = 0;
            minute = 0;
            fuss = 0;
            sightings.empty();
            notes.empty();
            marks.empty();
            past.empty();
        }

        void takeFrom(Hall other) {
            System.arraycopy(other.rowKinds, 0, rowKinds, 0, ROWS);
            System.arraycopy(other.soulKinds, 0, soulKinds, 0, SOULS);
            System.arraycopy(other.stubs, 0, stubs, 0, SOULS);
            System.arraycopy(other.cells, 0, cells, 0, SOULS);
            souls = other.souls;
            coats = other.coats;
            minute = other.minute;
            fuss = other.fuss;
            sightings.takeFrom(other.sightings);
            notes.takeFrom(other.notes);
            marks.takeFrom(other.marks);
            past.takeFrom(other.past);
        }

        int addSoul(int kind, int stub) {
            if (souls >= SOULS) {
                return NONE;
            }
            soulKinds[souls] = kind;
            stubs[souls] = stub;
            cells[souls] = NONE;
            souls++;
            return souls - 1;
        }

        boolean isSoul(int i) {
            return within(i, souls);
        }

        boolean sits(int i) {
            return cells[i] != NONE;
        }

        int howManySit() {
            int sitting = 0;
            for (int i = 0; i < souls; i++) {
                if (sits(i)) {
                    sitting++;
                }
            }
            return sitting;
        }

        int sitterAt(int c) {
            for (int i = 0; i < souls; i++) {
                if (cells[i] == c) {
                    return i;
                }
            }
            return NONE;
        }

        boolean hasCoat(int c) {
            return has(coats, c);
        }

        boolean isFree(int c) {
            return sitterAt(c) == NONE && !hasCoat(c);
        }

        int kneesTo(int c) {
            int aisle = c - c % SEATS;
            int knees = 0;
            for (int i = 0; i < souls; i++) {
                if (cells[i] >= aisle && cells[i] < c) {
                    knees++;
                }
            }
            return knees;
        }

        int sightFrom(int c) {
            return Kinds.sight(rowKinds[c / SEATS], c % SEATS);
        }

        int fussTo(int i, int c) {
            return Kinds.fuss(soulKinds[i], kneesTo(c), minute);
        }

        int showIn(int i, int c) {
            int made = fussTo(i, c);
            cells[i] = c;
            return settle(made);
        }

        int moveTo(int i, int c) {
            int made = fussTo(i, cells[i]);
            // One who has stood up has no knees to pass on the way back in.
            cells[i] = NONE;
            made += fussTo(i, c);
            cells[i] = c;
            return settle(made);
        }

        int sendOut(int i) {
            int made = fussTo(i, cells[i]);
            cells[i] = NONE;
            return settle(made);
        }

        private int settle(int made) {
            fuss = Math.min(MOST_FUSS, fuss + made);
            minute++;
            return made;
        }

        int liveThrough(int i, int c) {
            if (isSoul(i) && sits(i)) {
                return sendOut(i);
            }
            if (isSoul(i) && isFree(c)) {
                return showIn(i, c);
            }
            minute++;
            return 0;
        }

        void remember() {
            if (past.isFull()) {
                past.dropFirst();
            }
            past.openRow();
            for (int i = 0; i < souls; i++) {
                past.put(i, cells[i]);
            }
            past.put(COATS_AT, coats);
            past.put(FUSS_AT, fuss);
            past.put(MINUTE_AT, minute);
        }

        void goBack() {
            int last = past.size - 1;
            for (int i = 0; i < souls; i++) {
                cells[i] = past.at(last, i);
            }
            coats = past.at(last, COATS_AT);
            fuss = past.at(last, FUSS_AT);
            minute = past.at(last, MINUTE_AT);
            past.dropLast();
        }

        long mixInto(long h) {
            long mixed = h;
            for (int r = 0; r < ROWS; r++) {
                mixed = 31 * mixed + rowKinds[r];
            }
            mixed = 31 * mixed + coats;
            for (int i = 0; i < souls; i++) {
                mixed = 31 * mixed + soulKinds[i];
                mixed = 31 * mixed + stubs[i];
                mixed = 31 * mixed + cells[i];
            }
            mixed = sightings.mixInto(mixed);
            mixed = notes.mixInto(mixed);
            return marks.mixInto(mixed);
        }
    }

    /** In which order to show all in who can be, with least fuss. Sets of souls are bits. */
    private static final class Plan {
        private static final int SETS = 1 << SOULS;

        // By who is in already: the least fuss that all the others still make.
        private final int[] stillToCome = new int[SETS];
        private int all;

        void prepare(Hall hall) {
            all = whoCanCome(hall);
            // A set's followers have more souls, so their numbers are greater: they come first.
            for (int in = SETS - 1; in >= 0; in--) {
                if ((in & ~all) == 0) {
                    stillToCome[in] = leastBehind(hall, in);
                }
            }
        }

        int size() {
            return Integer.bitCount(all);
        }

        int leastFuss() {
            return stillToCome[0];
        }

        int whoComes(Hall hall, int k) {
            int in = 0;
            int who = NONE;
            for (int place = 0; place <= k && place < SOULS; place++) {
                who = nextOf(hall, in);
                if (who == NONE) {
                    return NONE;
                }
                in |= 1 << who;
            }
            return who;
        }

        private static int whoCanCome(Hall hall) {
            int bits = 0;
            for (int i = 0; i < hall.souls; i++) {
                if (!hall.sits(i) && hall.isFree(hall.stubs[i]) && !hasStub(hall, bits, hall.stubs[i])) {
                    bits |= 1 << i;
                }
            }
            return bits;
        }

        private static boolean hasStub(Hall hall, int bits, int stub) {
            for (int i = 0; i < hall.souls; i++) {
                if (has(bits, i) && hall.stubs[i] == stub) {
                    return true;
                }
            }
            return false;
        }

        private int leastBehind(Hall hall, int in) {
            int least = in == all ? 0 : MOST_FUSS;
            for (int i = 0; i < hall.souls; i++) {
                if (has(all & ~in, i)) {
                    least = Math.min(least, fussByWay(hall, in, i));
                }
            }
            return least;
        }

        private int nextOf(Hall hall, int in) {
            for (int i = 0; i < hall.souls; i++) {
                if (has(all & ~in, i) && fussByWay(hall, in, i) == stillToCome[in]) {
                    return i;
                }
            }
            return NONE;
        }

        private int fussByWay(Hall hall, int in, int i) {
            int knees = hall.kneesTo(hall.stubs[i]) + kneesOf(hall, in, hall.stubs[i]);
            int made = Kinds.fuss(hall.soulKinds[i], knees, hall.minute + Integer.bitCount(in));
            return made + stillToCome[in | 1 << i];
        }

        private static int kneesOf(Hall hall, int in, int c) {
            int aisle = c - c % SEATS;
            int knees = 0;
            for (int i = 0; i < hall.souls; i++) {
                if (has(in, i) && hall.stubs[i] >= aisle && hall.stubs[i] < c) {
                    knees++;
                }
            }
            return knees;
        }
    }

    /** The fewest swaps that put all right who own the stubs that they hold. */
    private static final class Muddle {
        /** One swap for each who is away from home, but a ring of them saves one. */
        static int fewestSwaps(Hall hall) {
            int swaps = 0;
            for (int i = 0; i < hall.souls; i++) {
                if (owns(hall, i) && hall.cells[i] != hall.stubs[i]) {
                    swaps += leadsRing(hall, i) ? 0 : 1;
                }
            }
            return swaps;
        }

        private static boolean owns(Hall hall, int i) {
            if (!hall.sits(i)) {
                return false;
            }
            for (int j = 0; j < i; j++) {
                if (hall.sits(j) && hall.stubs[j] == hall.stubs[i]) {
                    return false;
                }
            }
            return true;
        }

        /** Is it the least of souls each of whom sits on the next one's seat, all around? */
        private static boolean leadsRing(Hall hall, int i) {
            int j = i;
            for (int step = 0; step < SOULS; step++) {
                j = hall.sitterAt(hall.stubs[j]);
                if (j == i) {
                    return true;
                }
                if (j < i || !owns(hall, j)) {
                    return false;
                }
            }
            return false;
        }
    }

    /** How many of some numbers are alike. */
    private static final class Tally {
        // No sight and no fuss of one soul goes beyond 13.
        private final int[] times = new int[16];
        int most;

        void reset() {
            for (int n = 0; n < times.length; n++) {
                times[n] = 0;
            }
            most = 0;
        }

        void add(int number) {
            if (within(number, times.length)) {
                times[number]++;
                most = Math.max(most, times[number]);
            }
        }
    }

    /** THE TEXT, and the hall that it tells, read token by token; where it can't go on, 'start' is the fault. */
    private static final class Text {
        private static final int END = 0, WORD = 1, NUMBER = 2, STOP = 3, STRANGE = 4;

        // Read in here, so that a fault found late leaves the hall of the calls as it was.
        final Hall hall = new Hall();
        private final byte[] bytes = new byte[TEXT_BYTES];
        int length;
        private int token;
        private int start;
        private int next;
        private int value;

        boolean isFull() {
            return length >= bytes.length;
        }

        int add(int c) {
            if (length < bytes.length) {
                bytes[length] = (byte) c;
                length++;
            }
            return length;
        }

        int empty() {
            int before = length;
            length = 0;
            return before;
        }

        /** How many items there are, or -10 less the fault. */
        int readAll() {
            hall.reset();
            next = 0;
            int items = 0;
            for (int turn = 0; turn <= length; turn++) {
                advance();
                if (token == END && items > 0) {
                    return items;
                }
                if (!readItem(items == 0) || !readStop()) {
                    return -10 - start;
                }
                items++;
            }
            return -10 - start;
        }

        private boolean readItem(boolean first) {
            if (token != WORD || first != spells("hall")) {
                return false;
            }
            if (first) {
                return readRowKinds();
            }
            if (spells("soul")) {
                return readSoul();
            }
            if (spells("coat")) {
                return readCoat();
            }
            if (spells("sit")) {
                return readSit();
            }
            if (spells("out")) {
                return readOut();
            }
            return spells("minutes") && readMinutes();
        }

        private boolean readRowKinds() {
            for (int r = 0; r < ROWS; r++) {
                if (!readNumber(0, KINDS - 1)) {
                    return false;
                }
                hall.rowKinds[r] = value;
            }
            return true;
        }

        private boolean readSoul() {
            if (hall.souls >= SOULS || !readNumber(0, KINDS - 1)) {
                return false;
            }
            int kind = value;
            if (!readNumber(0, CELLS - 1)) {
                return false;
            }
            hall.addSoul(kind, value);
            return true;
        }

        private boolean readCoat() {
            if (!readNumber(0, CELLS - 1) || !hall.isFree(value)) {
                return false;
            }
            hall.coats |= 1 << value;
            return true;
        }

        private boolean readSit() {
            if (!readNumber(0, hall.souls - 1) || hall.sits(value)) {
                return false;
            }
            int who = value;
            if (!readNumber(0, CELLS - 1) || !hall.isFree(value)) {
                return false;
            }
            hall.showIn(who, value);
            return true;
        }

        private boolean readOut() {
            if (!readNumber(0, hall.souls - 1) || !hall.sits(value)) {
                return false;
            }
            hall.sendOut(value);
            return true;
        }

        private boolean readMinutes() {
            if (!readNumber(1, 99)) {
                return false;
            }
            hall.minute = Math.min(LAST_MINUTE, hall.minute + value);
            return true;
        }

        private boolean readNumber(int least, int most) {
            advance();
            return token == NUMBER && value >= least && value <= most;
        }

        private boolean readStop() {
            advance();
            return token == STOP;
        }

        /** Goes on to the next token, which is from 'start' to ahead of 'next'. */
        private void advance() {
            start = next;
            while (start < length && bytes[start] == ' ') {
                start++;
            }
            next = start;
            if (start >= length) {
                token = END;
            } else if (isLetter(bytes[start])) {
                token = WORD;
                while (next < length && isLetter(bytes[next])) {
                    next++;
                }
            } else if (isFigure(bytes[start])) {
                takeFigures();
            } else {
                token = bytes[start] == ';' ? STOP : STRANGE;
                next++;
            }
        }

        private void takeFigures() {
            value = 0;
            while (next < length && isFigure(bytes[next])) {
                // A run too long is no number: its value is not used, and may be anything.
                value = 10 * value + bytes[next] - '0';
                next++;
            }
            token = next - start <= 2 ? NUMBER : STRANGE;
        }

        private boolean spells(String word) {
            if (next - start != word.length()) {
                return false;
            }
            for (int n = 0; n < word.length(); n++) {
                if (bytes[start + n] != word.charAt(n)) {
                    return false;
                }
            }
            return true;
        }

        private static boolean isLetter(int c) {
            return c >= 'a' && c <= 'z';
        }

        private static boolean isFigure(int c) {
            return c >= '0' && c <= '9';
        }
    }
}
