/**
 * A wall of stones that guests paid their lodging with: who puts his stone where, what each
 * stone bears, what falls, and who may have been there.
 */
public final class GuestStones {
    public static final int NONE = -6, UNKNOWN = -1, OUTSIDE = -2, STATE = -3, FULL = -4, NO = -5;
    public static final long LOST = -1000000000000000000L;

    private static final int GUESTS = 10;
    private static final int ROWS = 10;
    private static final int FEWEST_COLUMNS = 2, MOST_COLUMNS = 9, FIRST_COLUMNS = 6;
    private static final int MOST_WIDE = 3, MOST_WEIGHT = 20, MOST_BEARS = 200;
    private static final int MOST_SIGNS = 60, FIRST_SIGN = 33, LAST_SIGN = 126;
    private static final int MOST_SIGHTS = 8, MOST_HIGH = 10, HEIGHTS = 11;
    private static final int MOST_ORDERED = 6, MOST_FREE = 3, MOST_IN_ROW = 2;
    private static final int MOST_SEED = 9999, MOST_NIGHTS = 99;
    private static final int ALL_GUESTS = 1023;

    /** Where a STONE is that is not in the WALL, and the COLUMN of an ACT that takes one out. */
    private static final int NOWHERE = -1;

    /** The reasons for which an ACT can not be, and that there is none. */
    private static final int CAN_BE = 0, NOT_HIS = 1, BEYOND = 2, WOULD_FALL = 3, TOO_HEAVY = 4, COVERED = 5;

    /**
     * Six to the ninth: a share is cut in 1, 2 or 3 at most nine times on its way down ten rows,
     * so that every LOAD is a whole number of these parts.
     */
    private static final long UNIT = 10077696L;

    /** A divisor of two longs is found in fewer steps than this. */
    private static final int DIVISOR_STEPS = 128;

    private final Wall now = new Wall();
    private final Wall trial = new Wall();
    private final Sights sights = new Sights();
    private final Pad pad = new Pad();
    private final Image firstImage = new Image();
    private final Image secondImage = new Image();
    private final Rows rows = new Rows();
    private final Orders sequences = new Orders();

    public GuestStones() {
    }

    // ---- 1 walls, guests, years

    public int wall(int n) {
        if (isOutside(n, FEWEST_COLUMNS, MOST_COLUMNS)) {
            return OUTSIDE;
        }
        int before = now.columns;
        now.empty(n);
        sights.count = 0;
        return before;
    }

    public int guest(int guest, int wide, int weight, int bears) {
        if (isNoGuest(guest)) {
            return UNKNOWN;
        }
        if (isOutside(wide, 1, MOST_WIDE) || isOutside(weight, 1, MOST_WEIGHT) || isOutside(bears, 0, MOST_BEARS)) {
            return OUTSIDE;
        }
        if (now.isLaid(guest)) {
            return STATE;
        }
        now.give(guest, wide, weight, bears);
        return Integer.bitCount(now.given);
    }

    public int say(int sign) {
        if (isOutside(sign, FIRST_SIGN, LAST_SIGN)) {
            return OUTSIDE;
        }
        if (pad.count >= MOST_SIGNS) {
            return FULL;
        }
        pad.add(sign);
        return pad.count;
    }

    public int wipe() {
        int before = pad.count;
        pad.count = 0;
        return before;
    }

    public int fault() {
        return pad.firstFault(now.columns);
    }

    // ---- 2 years

    public int judge(int what) {
        if (isOutside(what, 0, 1)) {
            return OUTSIDE;
        }
        int verdict = tryPad();
        if (verdict < 0) {
            return verdict;
        }
        return what == 0 ? verdict / 10 : verdict % 10;
    }

    public int done() {
        if (tryPad() != NONE) {
            return NO;
        }
        int acts = pad.acts();
        now.become(trial);
        pad.count = 0;
        return acts;
    }

    public int state(int guest, int what) {
        if (isNoGuest(guest)) {
            return UNKNOWN;
        }
        if (isOutside(what, 0, 1)) {
            return OUTSIDE;
        }
        return now.placeOf(guest, what);
    }

    public int behind(int guest, int what) {
        if (isNoGuest(guest)) {
            return UNKNOWN;
        }
        if (isOutside(what, 0, 1)) {
            return OUTSIDE;
        }
        if (tryPad() != NONE) {
            return NO;
        }
        return trial.placeOf(guest, what);
    }

    public int height(int column) {
        if (isNoColumn(column)) {
            return UNKNOWN;
        }
        if (tryPad() != NONE) {
            return NO;
        }
        return at(trial.top, column);
    }

    public long load(int guest, int part) {
        if (isNoGuest(guest)) {
            return LOST + UNKNOWN;
        }
        if (isOutside(part, 0, 1)) {
            return LOST + OUTSIDE;
        }
        if (!now.isLaid(guest)) {
            return LOST + STATE;
        }
        now.weigh();
        return inLowestTerms(at(now.units, guest), UNIT, part);
    }

    public long strain(int part) {
        if (isOutside(part, 0, 1)) {
            return LOST + OUTSIDE;
        }
        now.weigh();
        int most = now.mostStrained();
        return inLowestTerms(now.strainUpper(most), now.strainLower(most) * UNIT, part);
    }

    public int bulges() {
        now.weigh();
        int bits = 0;
        for (int g = 0; g < GUESTS; g++) {
            if (now.isLaid(g) && 4 * at(now.units, g) > 3 * UNIT * at(now.bears, g)) {
                bits |= 1 << g;
            }
        }
        return bits;
    }

    public int touch(int i) {
        int met = 0;
        for (int lesser = 0; lesser < GUESTS; lesser++) {
            for (int greater = lesser + 1; greater < GUESTS; greater++) {
                if (now.areSideBySide(lesser, greater)) {
                    if (met == i) {
                        return 10 * lesser + greater;
                    }
                    met++;
                }
            }
        }
        return i == -1 ? met : NONE;
    }

    public int gaps(int column) {
        if (column != -1 && isNoColumn(column)) {
            return UNKNOWN;
        }
        int empty = 0;
        int columns = now.columns;
        for (int c = 0; c < columns; c++) {
            if (column == -1 || column == c) {
                empty += now.emptyCells(c);
            }
        }
        return empty;
    }

    // ---- 3 where, gates, what falls

    public int where(int guest) {
        if (isNoGuest(guest)) {
            return UNKNOWN;
        }
        if (!now.isFree(guest)) {
            return STATE;
        }
        trial.become(now);
        int best = NONE;
        long bestUpper = 0;
        long bestLower = 1;
        int columns = trial.columns;
        for (int c = 0; c < columns; c++) {
            if (trial.put(guest, c) == CAN_BE) {
                trial.weigh();
                int most = trial.mostStrained();
                long upper = trial.strainUpper(most);
                long lower = trial.strainLower(most);
                if (best == NONE || upper * bestLower < bestUpper * lower) {
                    best = c;
                    bestUpper = upper;
                    bestLower = lower;
                }
                trial.lift(guest);
            }
        }
        return best;
    }

    public int gate(int column, int row, int wide) {
        if (isNoColumn(column)) {
            return UNKNOWN;
        }
        if (isOutside(row, 0, ROWS - 1) || isOutside(wide, 1, MOST_WIDE)) {
            return OUTSIDE;
        }
        trial.become(now);
        int bits = 0;
        for (int g = 0; g < GUESTS; g++) {
            if (at(trial.wide, g) == wide && trial.put(g, column) == CAN_BE) {
                if (at(trial.row, g) == row) {
                    bits |= 1 << g;
                }
                trial.lift(g);
            }
        }
        return bits;
    }

    public int orders(int place) {
        if (pad.firstFault(now.columns) != NONE) {
            return NO;
        }
        int told = guestsWhoPut();
        if (told == NO) {
            return NO;
        }
        int acts = pad.acts();
        if (acts > MOST_ORDERED) {
            return FULL;
        }
        trial.become(now);
        sequences.start(pad);
        arrange(trial, sequences, told, 0);
        if (place == -1) {
            return sequences.count;
        }
        boolean isThere = place >= 0 && place < acts && sequences.count > 0;
        return isThere ? at(sequences.first, place) : NONE;
    }

    public int high(int what) {
        if (isOutside(what, 0, 1)) {
            return OUTSIDE;
        }
        if (Integer.bitCount(now.freeGuests()) > MOST_FREE) {
            return FULL;
        }
        trial.become(now);
        int score = climb(trial, 0, 0);
        return what == 0 ? score / (MOST_FREE + 1) : MOST_FREE - score % (MOST_FREE + 1);
    }

    public int falls(int set) {
        if (isOutside(set, 0, ALL_GUESTS)) {
            return OUTSIDE;
        }
        return fallenWithout(set);
    }

    public int key(int what) {
        if (isOutside(what, 0, 1)) {
            return OUTSIDE;
        }
        int who = NONE;
        int most = NONE;
        for (int g = 0; g < GUESTS; g++) {
            if (now.isLaid(g)) {
                int fallen = Integer.bitCount(fallenWithout(1 << g));
                if (fallen > most) {
                    who = g;
                    most = fallen;
                }
            }
        }
        return what == 0 ? who : most;
    }

    // ---- 4 who was there, weak ones

    public int seen(int column, int high) {
        if (isNoColumn(column)) {
            return UNKNOWN;
        }
        if (isOutside(high, 0, MOST_HIGH)) {
            return OUTSIDE;
        }
        if (sights.count >= MOST_SIGHTS) {
            return FULL;
        }
        sights.add(column, high);
        return sights.count;
    }

    public int forget() {
        int before = sights.count;
        sights.count = 0;
        return before;
    }

    public int who(int m, int what) {
        if (isOutside(m, 0, MOST_IN_ROW) || isOutside(what, 0, 2)) {
            return OUTSIDE;
        }
        findRows(m);
        return what == 0 ? rows.count : what == 1 ? rows.inSome : rows.inAll;
    }

    public int look(int m, int what) {
        if (isOutside(m, 0, MOST_IN_ROW) || isOutside(what, 0, 1)) {
            return OUTSIDE;
        }
        findRows(m);
        if (rows.count == 0) {
            return NONE;
        }
        int best = NONE;
        int least = NONE;
        int columns = now.columns;
        for (int c = 0; c < columns; c++) {
            if (!sights.hasSeen(c)) {
                int left = rows.mostLeft(c);
                if (best == NONE || left < least) {
                    best = c;
                    least = left;
                }
            }
        }
        return what == 0 ? best : least;
    }

    public long weak(int t, int what, int part) {
        if (isOutside(t, 0, 10) || isOutside(what, 0, 1) || isOutside(part, 0, 1)) {
            return LOST + OUTSIDE;
        }
        now.weigh();
        long upper = 1;
        long lower = 1;
        int endangered = 0;
        for (int g = 0; g < GUESTS; g++) {
            if (now.isLaid(g) && at(now.units, g) > at(now.bears, g) / 2 * UNIT) {
                upper *= 10 - t;
                lower *= 10;
                endangered++;
            }
        }
        return what == 0 ? inLowestTerms(upper, lower, part) : inLowestTerms(endangered * t, 10, part);
    }

    public int year(int seed, int m, int what) {
        if (isOutside(seed, 0, MOST_SEED) || isOutside(m, 1, MOST_NIGHTS) || isOutside(what, 0, 2)) {
            return OUTSIDE;
        }
        trial.become(now);
        int x = seed;
        int put = 0;
        int taken = 0;
        int tallest = 0;
        for (int night = 0; night < m; night++) {
            x = (75 * x + 74) % 65537;
            int guest = x % 10;
            if (trial.put(guest, leftOver(x / 10, trial.columns)) == CAN_BE) {
                put++;
            } else if (trial.take(guest) == CAN_BE) {
                taken++;
            }
            tallest = Math.max(tallest, trial.tallest());
        }
        return what == 0 ? put : what == 1 ? taken : tallest;
    }

    public int image(int n) {
        if (isOutside(n, 0, 1)) {
            return OUTSIDE;
        }
        Image kept = n == 0 ? firstImage : secondImage;
        kept.wall.become(now);
        kept.sights.become(sights);
        kept.isKept = true;
        return 1;
    }

    public int restore(int n) {
        if (isOutside(n, 0, 1)) {
            return OUTSIDE;
        }
        Image kept = n == 0 ? firstImage : secondImage;
        if (!kept.isKept) {
            return STATE;
        }
        now.become(kept.wall);
        sights.become(kept.sights);
        return 1;
    }

    public int told(int what) {
        switch (what) {
            case 0:
                return pad.count;
            case 1:
                return now.columns;
            case 2:
                return now.given;
            case 3:
                return now.laid;
            case 4:
                return sights.count;
            default:
                return toldOfStone(what / 10 - 1, what % 10);
        }
    }

    // ---- what the calls share

    private static boolean isOutside(int number, int least, int most) {
        return number < least || number > most;
    }

    private static boolean isNoGuest(int guest) {
        return isOutside(guest, 0, GUESTS - 1);
    }

    private boolean isNoColumn(int column) {
        return isOutside(column, 0, now.columns - 1);
    }

    private int toldOfStone(int guest, int what) {
        if (!now.isGiven(guest)) {
            return OUTSIDE;
        }
        switch (what) {
            case 0:
                return at(now.wide, guest);
            case 1:
                return at(now.weight, guest);
            case 2:
                return at(now.bears, guest);
            default:
                return OUTSIDE;
        }
    }

    /**
     * Does the ACTS of the PAD on the trial WALL. NO: there is a FAULT; NONE: all can be, and the
     * trial is as it is BEHIND them; else 10 times the first ACT that can not be, and why.
     */
    private int tryPad() {
        if (pad.firstFault(now.columns) != NONE) {
            return NO;
        }
        trial.become(now);
        int acts = pad.acts();
        for (int act = 0; act < acts; act++) {
            int guest = pad.guestOf(act);
            int column = pad.columnOf(act);
            int why = column == NOWHERE ? trial.take(guest) : trial.put(guest, column);
            if (why != CAN_BE) {
                return 10 * act + why;
            }
        }
        return NONE;
    }

    /** The GUESTS of the PAD's ACTS as bits; NO: an ACT is no put, or a GUEST is there twice. */
    private int guestsWhoPut() {
        int bits = 0;
        int acts = pad.acts();
        for (int act = 0; act < acts; act++) {
            int bit = 1 << pad.guestOf(act);
            if (pad.columnOf(act) == NOWHERE || (bits & bit) != 0) {
                return NO;
            }
            bits |= bit;
        }
        return bits;
    }

    private int fallenWithout(int set) {
        trial.become(now);
        trial.liftAll(set);
        return trial.collapse();
    }

    private void findRows(int m) {
        trial.become(now);
        rows.start();
        grow(trial, sights, rows, m, 0);
    }

    /** Counts the rows that go on from here by so many GUESTS more; those before are bits. */
    private static void grow(Wall wall, Sights sights, Rows rows, int left, int before) {
        if (wall == null || sights == null || rows == null || left < 0 || left > MOST_IN_ROW) {
            return;
        }
        if (left == 0) {
            if (sights.areSo(wall)) {
                rows.add(wall, before);
            }
            return;
        }
        int columns = wall.columns;
        for (int g = 0; g < GUESTS; g++) {
            if (wall.isFree(g)) {
                for (int c = 0; c < columns; c++) {
                    if (wall.put(g, c) == CAN_BE) {
                        grow(wall, sights, rows, left - 1, before | 1 << g);
                        wall.lift(g);
                    }
                }
            }
        }
    }

    /** Counts the orders that go on from here; left are the GUESTS still to put, as bits. */
    private static void arrange(Wall wall, Orders orders, int left, int place) {
        if (wall == null || orders == null || place < 0 || place > MOST_ORDERED) {
            return;
        }
        if (left == 0) {
            orders.add();
            return;
        }
        for (int g = 0; g < GUESTS; g++) {
            if (hasBit(left, g) && wall.put(g, at(orders.column, g)) == CAN_BE) {
                set(orders.path, place, g);
                arrange(wall, orders, left & ~(1 << g), place + 1);
                wall.lift(g);
            }
        }
    }

    /**
     * The best score from here on, or the best before: 4 times the height, and as much more as
     * fewer than three GUESTS have put, so that the fewest win among the highest.
     */
    private static int climb(Wall wall, int puts, int bestBefore) {
        if (wall == null || puts < 0 || puts > MOST_FREE) {
            return bestBefore;
        }
        int tallest = wall.tallest();
        int best = Math.max(bestBefore, (MOST_FREE + 1) * tallest + MOST_FREE - puts);
        // A STONE makes the WALL higher by one at most, so this way leads to nothing better.
        if (tallest + Integer.bitCount(wall.freeGuests()) <= best / (MOST_FREE + 1)) {
            return best;
        }
        int columns = wall.columns;
        for (int g = 0; g < GUESTS; g++) {
            if (wall.isFree(g)) {
                for (int c = 0; c < columns; c++) {
                    if (wall.put(g, c) == CAN_BE) {
                        best = climb(wall, puts + 1, best);
                        wall.lift(g);
                    }
                }
            }
        }
        return best;
    }

    // ---- numbers and rows of numbers

    private static boolean hasBit(int bits, int i) {
        return i >= 0 && i < GUESTS && (bits >> i & 1) == 1;
    }

    private static int leftOver(int x, int by) {
        return by > 0 ? x % by : 0;
    }

    private static long inLowestTerms(long upper, long lower, int part) {
        long by = greatestDivisor(upper, lower);
        if (by == 0) {
            return 0;
        }
        return part == 0 ? upper / by : lower / by;
    }

    private static long greatestDivisor(long one, long other) {
        long greater = one;
        long lesser = other;
        for (int step = 0; step < DIVISOR_STEPS && lesser != 0; step++) {
            long rest = greater % lesser;
            greater = lesser;
            lesser = rest;
        }
        return greater;
    }

    private static int at(int[] row, int i) {
        return row != null && i >= 0 && i < row.length ? row[i] : 0;
    }

    private static long at(long[] row, int i) {
        return row != null && i >= 0 && i < row.length ? row[i] : 0;
    }

    private static void set(int[] row, int i, int value) {
        if (row != null && i >= 0 && i < row.length) {
            row[i] = value;
        }
    }

    private static void addTo(long[] row, int i, long more) {
        if (row != null && i >= 0 && i < row.length) {
            row[i] += more;
        }
    }

    private static void fill(int[] row, int value) {
        if (row == null) {
            return;
        }
        for (int i = 0; i < row.length; i++) {
            row[i] = value;
        }
    }

    private static void fill(long[] row, long value) {
        if (row == null) {
            return;
        }
        for (int i = 0; i < row.length; i++) {
            row[i] = value;
        }
    }

    private static void copy(int[] from, int[] to) {
        if (from != null && to != null) {
            System.arraycopy(from, 0, to, 0, Math.min(from.length, to.length));
        }
    }

    /** The COLUMNS, the GUESTS' STONES, and where those lie that are in the WALL. */
    private static final class Wall {
        private int columns = FIRST_COLUMNS;
        /** GUESTS who have a STONE, and those whose STONE is in the WALL, as bits. */
        private int given;
        private int laid;
        private final int[] wide = new int[GUESTS];
        private final int[] weight = new int[GUESTS];
        private final int[] bears = new int[GUESTS];
        private final int[] row = new int[GUESTS];
        private final int[] column = new int[GUESTS];
        /** Of each cell 1 and the GUEST whose STONE is there; 0: it is empty. */
        private final int[] cell = new int[ROWS * MOST_COLUMNS];
        /** The HEIGHT of each COLUMN. */
        private final int[] top = new int[MOST_COLUMNS];
        /** The LOAD of each STONE in UNITs, as it was when weigh() was called last. */
        private final long[] units = new long[GUESTS];

        void empty(int n) {
            columns = n;
            given = 0;
            laid = 0;
            fill(cell, 0);
            fill(top, 0);
        }

        void become(Wall other) {
            if (other == null) {
                return;
            }
            columns = other.columns;
            given = other.given;
            laid = other.laid;
            copy(other.wide, wide);
            copy(other.weight, weight);
            copy(other.bears, bears);
            copy(other.row, row);
            copy(other.column, column);
            copy(other.cell, cell);
            copy(other.top, top);
        }

        void give(int guest, int itsWide, int itsWeight, int itsBears) {
            given |= 1 << guest;
            set(wide, guest, itsWide);
            set(weight, guest, itsWeight);
            set(bears, guest, itsBears);
        }

        boolean isGiven(int guest) {
            return hasBit(given, guest);
        }

        boolean isLaid(int guest) {
            return hasBit(laid, guest);
        }

        boolean isFree(int guest) {
            return hasBit(freeGuests(), guest);
        }

        int freeGuests() {
            return given & ~laid;
        }

        /** The row (what = 0) or the COLUMN (1) of a STONE; NONE: it is not in the WALL. */
        int placeOf(int guest, int what) {
            if (!isLaid(guest)) {
                return NONE;
            }
            return what == 0 ? at(row, guest) : at(column, guest);
        }

        int tallest() {
            int most = 0;
            for (int c = 0; c < MOST_COLUMNS; c++) {
                most = Math.max(most, at(top, c));
            }
            return most;
        }

        /** Puts the STONE, if that can be; else all stays as it is, and it tells why. */
        int put(int guest, int itsColumn) {
            if (!isFree(guest)) {
                return NOT_HIS;
            }
            int itsWide = at(wide, guest);
            if (itsColumn < 0 || itsColumn + itsWide > columns) {
                return BEYOND;
            }
            int itsRow = rowOnTop(itsColumn, itsWide);
            if (2 * heldCells(itsRow, itsColumn, itsWide) < itsWide) {
                return WOULD_FALL;
            }
            lay(guest, itsRow, itsColumn);
            // A STONE in row 0 is on no other, so that no LOAD is more than before.
            if (itsRow == 0) {
                return CAN_BE;
            }
            weigh();
            if (isAnyTooHeavy()) {
                lift(guest);
                return TOO_HEAVY;
            }
            return CAN_BE;
        }

        /** Takes the STONE out, if that can be; else all stays as it is, and it tells why. */
        int take(int guest) {
            if (!isLaid(guest)) {
                return NOT_HIS;
            }
            if (isCovered(guest)) {
                return COVERED;
            }
            lift(guest);
            return CAN_BE;
        }

        private int rowOnTop(int itsColumn, int itsWide) {
            int most = 0;
            for (int i = 0; i < itsWide; i++) {
                most = Math.max(most, at(top, itsColumn + i));
            }
            return most;
        }

        private int heldCells(int itsRow, int itsColumn, int itsWide) {
            if (itsRow == 0) {
                return itsWide;
            }
            int held = 0;
            int start = (itsRow - 1) * MOST_COLUMNS + itsColumn;
            for (int i = 0; i < itsWide; i++) {
                int below = start + i;
                if (below >= 0 && below < cell.length && cell[below] != 0) {
                    held++;
                }
            }
            return held;
        }

        private static int cellAt(int itsRow, int itsColumn) {
            return itsRow * MOST_COLUMNS + itsColumn;
        }

        private boolean isCovered(int guest) {
            int itsWide = at(wide, guest);
            for (int i = 0; i < itsWide; i++) {
                if (at(cell, cellAt(at(row, guest) + 1, at(column, guest) + i)) != 0) {
                    return true;
                }
            }
            return false;
        }

        private void lay(int guest, int itsRow, int itsColumn) {
            laid |= 1 << guest;
            set(row, guest, itsRow);
            set(column, guest, itsColumn);
            int itsWide = at(wide, guest);
            for (int i = 0; i < itsWide; i++) {
                set(cell, cellAt(itsRow, itsColumn + i), guest + 1);
                set(top, itsColumn + i, itsRow + 1);
            }
        }

        /** The STONE is gone, whatever is on it. */
        void lift(int guest) {
            if (!isLaid(guest)) {
                return;
            }
            laid &= ~(1 << guest);
            int itsRow = at(row, guest);
            int itsColumn = at(column, guest);
            int itsWide = at(wide, guest);
            for (int i = 0; i < itsWide; i++) {
                set(cell, cellAt(itsRow, itsColumn + i), 0);
                set(top, itsColumn + i, heightBelow(at(top, itsColumn + i), itsColumn + i));
            }
        }

        private int heightBelow(int limit, int itsColumn) {
            for (int high = limit; high > 0; high--) {
                if (at(cell, cellAt(high - 1, itsColumn)) != 0) {
                    return high;
                }
            }
            return 0;
        }

        void liftAll(int set) {
            for (int g = 0; g < GUESTS; g++) {
                if (hasBit(set, g)) {
                    lift(g);
                }
            }
        }

        /** Finds the LOAD of each STONE, from the highest row down. */
        void weigh() {
            fill(units, 0);
            for (int r = tallest() - 1; r > 0; r--) {
                for (int g = 0; g < GUESTS; g++) {
                    if (isLaid(g) && at(row, g) == r) {
                        passDown(g, r);
                    }
                }
            }
        }

        private void passDown(int guest, int itsRow) {
            int itsWide = at(wide, guest);
            int itsColumn = at(column, guest);
            int held = heldCells(itsRow, itsColumn, itsWide);
            if (held <= 0) {
                return;
            }
            long share = (at(weight, guest) * UNIT + at(units, guest)) / held;
            for (int i = 0; i < itsWide; i++) {
                addTo(units, at(cell, cellAt(itsRow - 1, itsColumn + i)) - 1, share);
            }
        }

        private boolean isTooHeavyOn(int guest) {
            return at(units, guest) > at(bears, guest) * UNIT;
        }

        private boolean isAnyTooHeavy() {
            for (int g = 0; g < GUESTS; g++) {
                if (isLaid(g) && isTooHeavyOn(g)) {
                    return true;
                }
            }
            return false;
        }

        /** The GUEST whose STONE has the most LOAD by what it BEARS; NONE: no STONE BEARS any. */
        int mostStrained() {
            int most = NONE;
            for (int g = 0; g < GUESTS; g++) {
                if (isLaid(g) && at(bears, g) > 0
                        && (most == NONE || strainUpper(g) * strainLower(most) > strainUpper(most) * strainLower(g))) {
                    most = g;
                }
            }
            return most;
        }

        /** The STRAIN of a STONE is this many UNITs by strainLower. */
        long strainUpper(int guest) {
            return guest == NONE ? 0 : at(units, guest);
        }

        long strainLower(int guest) {
            return guest == NONE ? 1 : at(bears, guest);
        }

        /** Lets fall what can not stay, round by round: which fell, as bits. */
        int collapse() {
            int fallen = 0;
            for (int round = 0; round < GUESTS; round++) {
                int falling = fallingNow();
                if (falling == 0) {
                    return fallen;
                }
                liftAll(falling);
                fallen |= falling;
            }
            return fallen;
        }

        private int fallingNow() {
            weigh();
            int bits = 0;
            for (int g = 0; g < GUESTS; g++) {
                int itsWide = at(wide, g);
                if (isLaid(g) && (isTooHeavyOn(g) || 2 * heldCells(at(row, g), at(column, g), itsWide) < itsWide)) {
                    bits |= 1 << g;
                }
            }
            return bits;
        }

        boolean areSideBySide(int one, int other) {
            if (!isLaid(one) || !isLaid(other)) {
                return false;
            }
            int start = at(column, one);
            int end = start + at(wide, one);
            int otherStart = at(column, other);
            int otherEnd = otherStart + at(wide, other);
            int rowsApart = Math.abs(at(row, one) - at(row, other));
            if (rowsApart == 0) {
                return end == otherStart || otherEnd == start;
            }
            return rowsApart == 1 && start < otherEnd && otherStart < end;
        }

        int emptyCells(int itsColumn) {
            int empty = 0;
            int high = at(top, itsColumn);
            for (int r = 0; r < high; r++) {
                if (at(cell, cellAt(r, itsColumn)) == 0) {
                    empty++;
                }
            }
            return empty;
        }
    }

    /** The text of YEARS. */
    private static final class Pad {
        private int count;
        private final int[] sign = new int[MOST_SIGNS];

        void add(int more) {
            set(sign, count, more);
            count++;
        }

        int acts() {
            return count / 2;
        }

        int guestOf(int act) {
            return at(sign, 2 * act) - 'A';
        }

        /** The COLUMN at which the GUEST puts his STONE; NOWHERE: he takes it out. */
        int columnOf(int act) {
            int told = at(sign, 2 * act + 1);
            return told == '-' ? NOWHERE : told - '0';
        }

        int firstFault(int columns) {
            int signs = count;
            for (int i = 0; i < signs; i++) {
                int told = at(sign, i);
                boolean stands = i % 2 == 0
                        ? told >= 'A' && told < 'A' + GUESTS
                        : told == '-' || told >= '0' && told < '0' + columns;
                if (!stands) {
                    return i;
                }
            }
            return signs % 2 == 1 ? signs : NONE;
        }
    }

    /** How HIGH COLUMNS were in the morning. */
    private static final class Sights {
        private int count;
        private final int[] column = new int[MOST_SIGHTS];
        private final int[] high = new int[MOST_SIGHTS];

        void become(Sights other) {
            if (other == null) {
                return;
            }
            count = other.count;
            copy(other.column, column);
            copy(other.high, high);
        }

        void add(int itsColumn, int itsHigh) {
            set(column, count, itsColumn);
            set(high, count, itsHigh);
            count++;
        }

        boolean hasSeen(int itsColumn) {
            int all = count;
            for (int i = 0; i < all; i++) {
                if (at(column, i) == itsColumn) {
                    return true;
                }
            }
            return false;
        }

        boolean areSo(Wall wall) {
            if (wall == null) {
                return false;
            }
            int all = count;
            for (int i = 0; i < all; i++) {
                if (at(wall.top, at(column, i)) != at(high, i)) {
                    return false;
                }
            }
            return true;
        }
    }

    /** The rows of GUESTS, by which all SIGHTS are so. */
    private static final class Rows {
        private int count;
        private int inSome;
        private int inAll;
        /** Of each COLUMN and each height, how many rows leave it so. */
        private final int[] tally = new int[MOST_COLUMNS * HEIGHTS];

        void start() {
            count = 0;
            inSome = 0;
            inAll = 0;
            fill(tally, 0);
        }

        void add(Wall wall, int guests) {
            if (wall == null) {
                return;
            }
            inSome |= guests;
            inAll = count == 0 ? guests : inAll & guests;
            count++;
            for (int c = 0; c < MOST_COLUMNS; c++) {
                int i = c * HEIGHTS + at(wall.top, c);
                set(tally, i, at(tally, i) + 1);
            }
        }

        /** How many rows are left at the most, when this COLUMN is looked at. */
        int mostLeft(int column) {
            int most = 0;
            for (int high = 0; high < HEIGHTS; high++) {
                most = Math.max(most, at(tally, column * HEIGHTS + high));
            }
            return most;
        }
    }

    /** The orders in which all ACTS of the PAD can be. */
    private static final class Orders {
        private int count;
        /** The COLUMN at which each GUEST puts his STONE. */
        private final int[] column = new int[GUESTS];
        private final int[] path = new int[MOST_ORDERED];
        private final int[] first = new int[MOST_ORDERED];

        void start(Pad pad) {
            count = 0;
            if (pad == null) {
                return;
            }
            int acts = pad.acts();
            for (int act = 0; act < acts; act++) {
                set(column, pad.guestOf(act), pad.columnOf(act));
            }
        }

        void add() {
            if (count == 0) {
                copy(path, first);
            }
            count++;
        }
    }

    /** All but the PAD, as it was once. */
    private static final class Image {
        private boolean isKept;
        private final Wall wall = new Wall();
        private final Sights sights = new Sights();
    }
}
