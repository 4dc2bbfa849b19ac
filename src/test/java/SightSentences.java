/** The document's sentences on who was there, weak ones, YEARS by draws and images: part 4 of the terms, promises 23 to 31. */
final class SightSentences extends Sentence {

    /** In two COLUMNS C, 1 WIDE, and A, 2 WIDE: either can be on the other. */
    static GuestStones pair() {
        GuestStones x = new GuestStones();
        x.wall(2);
        x.guest(2, 1, 3, 5);
        x.guest(0, 2, 4, 10);
        return x;
    }

    static void rows(GuestStones x, int m, int count, int inSome, int inAll) {
        due("who(" + m + ", 0)", x.who(m, 0), count);
        due("who(" + m + ", 1)", x.who(m, 1), inSome);
        due("who(" + m + ", 2)", x.who(m, 2), inAll);
    }

    static void lookAt(GuestStones x, int m, int column, int left) {
        due("look(" + m + ", 0)", x.look(m, 0), column);
        due("look(" + m + ", 1)", x.look(m, 1), left);
    }

    static void fraction(String what, long upper, long lower, long wantedUpper, long wantedLower) {
        due(what + ", the upper", upper, wantedUpper);
        due(what + ", the lower", lower, wantedLower);
    }

    static void weakness(GuestStones x, int t, int[] none, int[] mean) {
        fraction("weak(" + t + ", 0)", x.weak(t, 0, 0), x.weak(t, 0, 1), none[0], none[1]);
        fraction("weak(" + t + ", 1)", x.weak(t, 1, 0), x.weak(t, 1, 1), mean[0], mean[1]);
    }

    static int[] by(int upper, int lower) {
        return new int[] {upper, lower};
    }

    static void drawn(GuestStones x, int seed, int nights, int put, int taken, int high) {
        due("year(" + seed + ", " + nights + ", 0)", x.year(seed, nights, 0), put);
        due("year(" + seed + ", " + nights + ", 1)", x.year(seed, nights, 1), taken);
        due("year(" + seed + ", " + nights + ", 2)", x.year(seed, nights, 2), high);
    }

    // ---- promise 23: seen

    static void seenCounts() {
        of(23, "A SIGHT more: how many.");
        GuestStones x = new GuestStones();
        due("first", x.seen(0, 1), 1);
        due("the same again", x.seen(0, 1), 2);
        due("another of it", x.seen(0, 2), 3);
        due("a refused one", x.seen(0, 11), OUTSIDE);
        due("of another COLUMN", x.seen(5, 0), 4);
        due("told(4)", x.told(4), 4);
        x.forget();
        due("first again", x.seen(3, 3), 1);
    }

    static void seenEightAtMost() {
        of(23, "SIGHTS, 8 at most");
        GuestStones x = new GuestStones();
        for (int i = 1; i <= 8; i++) {
            due("seen " + i, x.seen(i % 6, 0), i);
        }
        due("the ninth", x.seen(0, 0), FULL);
        due("told(4)", x.told(4), 8);
        rows(x, 0, 1, 0, 0);
    }

    static void seenKeepsTheEighth() {
        of(23, "SIGHTS, 8 at most: a COLUMN is so HIGH (0 to 10) in the morning.");
        GuestStones x = new GuestStones();
        for (int i = 1; i <= 7; i++) {
            x.seen(0, 0);
        }
        rows(x, 0, 1, 0, 0);
        due("the eighth", x.seen(5, 1), 8);
        rows(x, 0, 0, 0, 0);
    }

    static void seenHigh() {
        of(23, "a COLUMN is so HIGH (0 to 10) in the morning.");
        GuestStones x = tower(2);
        due("HIGH 10", x.seen(0, 10), 1);
        due("HIGH 0", x.seen(1, 0), 2);
        rows(x, 0, 1, 0, 0);
        x.forget();
        for (int high = 0; high <= 9; high++) {
            due("HIGH " + high, x.seen(0, high), 1);
            due("it is not so", x.who(0, 0), 0);
            x.forget();
        }
        due("HIGH 1", x.seen(1, 1), 1);
        rows(x, 0, 0, 0, 0);
    }

    static void seenKnowsTheColumns() {
        of(23, "UNKNOWN;");
        for (int n = 2; n <= 9; n++) {
            GuestStones x = walled(n);
            due("seen(0)", x.seen(0, 0), 1);
            due("seen(n - 1)", x.seen(n - 1, 0), 2);
            refusedBeyond("seen of " + n, c -> x.seen(c, 0), 0, n - 1, UNKNOWN);
            due("told(4)", x.told(4), 2);
        }
    }

    static void seenRefusesOtherNumbers() {
        of(23, "OUTSIDE;");
        GuestStones x = new GuestStones();
        refusedBeyond("HIGH", high -> x.seen(0, high), 0, 10, OUTSIDE);
        due("told(4)", x.told(4), 0);
    }

    static void seenIsFull() {
        of(23, "FULL.");
        GuestStones x = new GuestStones();
        for (int i = 0; i < 8; i++) {
            x.seen(0, 0);
        }
        for (int i = 0; i < 3; i++) {
            due("one more", x.seen(5, 10), FULL);
        }
        rows(x, 0, 1, 0, 0);
        x.forget();
        due("there is room", x.seen(5, 10), 1);
        x.image(0);
        for (int i = 2; i <= 8; i++) {
            due("more", x.seen(5, 10), i);
        }
        due("one more", x.seen(5, 10), FULL);
        x.restore(0);
        due("there is room again", x.seen(5, 10), 2);
    }

    // ---- promise 24: forget

    static void forgetTellsHowManyThereWere() {
        of(24, "how many there were.");
        GuestStones x = new GuestStones();
        due("of none", x.forget(), 0);
        x.seen(0, 0);
        due("of one", x.forget(), 1);
        due("of none", x.forget(), 0);
        for (int i = 0; i < 10; i++) {
            x.seen(i % 6, 0);
        }
        due("of the most", x.forget(), 8);
    }

    static void forgetEndsSightsAlone() {
        of(24, "SIGHTS go");
        GuestStones x = overhang();
        write(x, "D-");
        x.image(0);
        x.seen(0, 9);
        x.seen(5, 9);
        rows(x, 0, 0, 0, 0);
        lookAt(x, 0, NONE, NONE);
        due("forget", x.forget(), 2);
        due("told(4)", x.told(4), 0);
        rows(x, 0, 1, 0, 0);
        lookAt(x, 0, 0, 1);
        due("told(3)", x.told(3), 15);
        due("told(2)", x.told(2), 15);
        due("told(1)", x.told(1), 6);
        due("told(0)", x.told(0), 2);
        due("restore(0)", x.restore(0), 1);
        // Those that went do not come back with a new one.
        x.seen(0, 1);
        rows(x, 0, 1, 0, 0);
    }

    // ---- promise 25: who

    static void whoTells() {
        of(25, "WHO: how many (what = 0), GUESTS in some (1), in all (2; 0: there are no rows).");
        GuestStones x = pair();
        // C0 C1 A0; then only those that leave COLUMN 1 empty: C0.
        due("how many", x.who(1, 0), 3);
        due("in some", x.who(1, 1), 5);
        due("in all", x.who(1, 2), 0);
        x.seen(1, 0);
        rows(x, 1, 1, 4, 4);
        x.seen(1, 1);
        due("how many of no rows", x.who(1, 0), 0);
        due("in some of no rows", x.who(1, 1), 0);
        due("in all of no rows", x.who(1, 2), 0);
    }

    static void whoOfNobody() {
        of(25, "rows of m GUESTS (0 to 2)");
        GuestStones x = pair();
        rows(x, 0, 1, 0, 0);
        x.seen(0, 0);
        rows(x, 0, 1, 0, 0);
        x.seen(0, 1);
        rows(x, 0, 0, 0, 0);
        rows(new GuestStones(), 0, 1, 0, 0);
        rows(tower(6), 0, 1, 0, 0);
    }

    static void whoOfOneAndTwo() {
        of(25, "WHO: rows of m GUESTS (0 to 2)");
        GuestStones x = ten(6);
        rows(x, 0, 1, 0, 0);
        rows(x, 1, 60, 1023, 0);
        rows(x, 2, 3240, 1023, 0);
        GuestStones y = ten(9);
        rows(y, 1, 90, 1023, 0);
        rows(y, 2, 7290, 1023, 0);
        due("m of 3", y.who(3, 0), OUTSIDE);
        due("m of -1", y.who(-1, 0), OUTSIDE);
    }

    static void whoOfMoreThanThereAre() {
        of(25, "rows of m GUESTS (0 to 2) whose STONES are not in the WALL");
        GuestStones x = new GuestStones();
        rows(x, 1, 0, 0, 0);
        rows(x, 2, 0, 0, 0);
        x.guest(9, 1, 1, 50);
        rows(x, 1, 6, 512, 512);
        rows(x, 2, 0, 0, 0);
        build(x, "J0");
        rows(x, 1, 0, 0, 0);
        x.guest(0, 1, 1, 50);
        rows(x, 1, 6, 1, 1);
        rows(x, 2, 0, 0, 0);
        GuestStones all = tower(6);
        rows(all, 1, 0, 0, 0);
        rows(all, 2, 0, 0, 0);
    }

    static void whoWithTheirColumns() {
        of(25, "and the COLUMNS at which they put them");
        GuestStones x = walled(9, 1, 1, 50, 2, 1, 50, 3, 1, 50);
        // 9, 8 and 7 COLUMNS.
        rows(x, 1, 24, 7, 0);
        for (int c = 0; c < 9; c++) {
            x.forget();
            x.seen(c, 1);
            // Those whose cells are there: A at c, B at c or c - 1, C at c, c - 1 or c - 2.
            int count = 1 + (c > 0 ? 1 : 0) + (c < 8 ? 1 : 0) + Math.min(c, 6) - Math.max(c - 2, 0) + 1;
            due("COLUMN " + c + " is 1 HIGH", x.who(1, 0), count);
        }
    }

    static void whoOneBehindAnother() {
        of(25, "one behind another");
        GuestStones x = pair();
        // C0A0 C1A0 A0C0 A0C1: the same two in the other order are another row.
        rows(x, 2, 4, 5, 5);
        x.seen(0, 2);
        x.seen(1, 1);
        // A0C0.
        rows(x, 2, 1, 5, 5);
        x.forget();
        // In one order alone: A BEARS nothing, C 4.
        x.guest(0, 2, 4, 0);
        rows(x, 2, 2, 5, 5);
        // Apart: the same end by either order.
        GuestStones y = walled(2, 1, 1, 0, 1, 1, 0);
        rows(y, 2, 4, 3, 3);
        // No GUEST is twice in a row.
        GuestStones z = walled(2, 1, 1, 50);
        rows(z, 2, 0, 0, 0);
    }

    static void whoFromNowOn() {
        of(25, "from now on");
        GuestStones x = pair();
        write(x, "C0");
        rows(x, 1, 3, 5, 0);
        due("the PAD stays", x.told(0), 2);
        x.done();
        // A0 in row 1.
        rows(x, 1, 1, 1, 1);
        x.seen(0, 2);
        x.seen(1, 2);
        rows(x, 1, 1, 1, 1);
        rows(x, 0, 0, 0, 0);
        due("nothing is put", x.told(3), 4);
    }

    static void whoOfThoseThatCanBe() {
        of(25, "each of which can be");
        // Beyond: A at 1; not standing: B on C alone; too heavy: C on D.
        GuestStones x = walled(3, 2, 1, 50, 3, 1, 50, 1, 1, 50, 1, 1, 0);
        build(x, "D1");
        // A can not be on D at all, B neither; C at 0 and 2.
        rows(x, 1, 2, 4, 4);
        build(x, "D-C1");
        // A at 0 and 1 stands by half; B does not; D at 0, 1, 2.
        rows(x, 1, 5, 9, 0);
        // A put, D can be on it; D put at 1, A can not.
        GuestStones y = walled(2, 2, 1, 50, 1, 1, 0);
        rows(y, 2, 2, 3, 3);
    }

    static void whoBySights() {
        of(25, "by which all SIGHTS are so: how many;");
        GuestStones x = ten(2);
        rows(x, 1, 20, 1023, 0);
        x.seen(0, 1);
        rows(x, 1, 10, 1023, 0);
        x.seen(1, 1);
        rows(x, 1, 0, 0, 0);
        rows(x, 2, 180, 1023, 0);
        // Behind the row, not in between: 1 and 1, no longer 0.
        x.seen(1, 0);
        rows(x, 2, 0, 0, 0);
        x.forget();
        x.seen(1, 0);
        x.seen(0, 2);
        rows(x, 2, 90, 1023, 0);
        // The same SIGHT eight times.
        x.forget();
        for (int i = 0; i < 8; i++) {
            x.seen(1, 2);
        }
        rows(x, 2, 90, 1023, 0);
    }

    static void whoInSomeAndInAll() {
        of(25, "GUESTS in some of them, as bits; in all.");
        // J alone is 3 WIDE: COLUMNS 0 and 2 can be 1 HIGH by one, if it is J's.
        GuestStones x = new GuestStones();
        x.wall(3);
        x.guest(0, 1, 1, 50);
        x.guest(1, 1, 1, 50);
        x.guest(9, 3, 1, 50);
        rows(x, 1, 7, 515, 0);
        x.seen(0, 1);
        x.seen(2, 1);
        rows(x, 1, 1, 512, 512);
        // Of two: A and B beside each other in two orders, at either end.
        x.seen(1, 0);
        rows(x, 2, 4, 3, 3);
        x.forget();
        x.seen(1, 2);
        // J and then A or B at 1; A or B at 1 and then J does not stand. A and B at 1, in two orders.
        rows(x, 2, 4, 515, 0);
        x.seen(0, 1);
        rows(x, 2, 2, 515, 512);
    }

    static void whoRefusesOtherNumbers() {
        of(25, "OUTSIDE.");
        GuestStones x = pair();
        refusedBeyond("m", m -> x.who(m, 0), 0, 2, OUTSIDE);
        refusedBeyond("what", what -> x.who(0, what), 0, 2, OUTSIDE);
        refusedBeyond("m and what", n -> x.who(n, n), 0, 2, OUTSIDE);
    }

    // ---- promise 26: look

    static void lookTells() {
        of(26, "LOOK: the COLUMN (what = 0), how many (1);");
        GuestStones x = pair();
        // C0: 1 0; C1: 0 1; A0: 1 1.
        due("the COLUMN", x.look(1, 0), 0);
        due("how many", x.look(1, 1), 2);
        x.seen(0, 1);
        due("the COLUMN", x.look(1, 0), 1);
        due("how many", x.look(1, 1), 1);
    }

    static void lookIsNoneIfAllAreSeen() {
        of(26, "NONE: all are seen");
        GuestStones x = pair();
        x.seen(0, 0);
        lookAt(x, 0, 1, 1);
        x.seen(1, 0);
        rows(x, 0, 1, 0, 0);
        lookAt(x, 0, NONE, NONE);
        GuestStones y = new GuestStones();
        for (int c = 5; c > 0; c--) {
            y.seen(c, 0);
            lookAt(y, 0, 0, 1);
        }
        y.seen(0, 0);
        lookAt(y, 0, NONE, NONE);
    }

    static void lookIsNoneWithoutRows() {
        of(26, "or there are no rows.");
        GuestStones x = new GuestStones();
        lookAt(x, 1, NONE, NONE);
        lookAt(x, 2, NONE, NONE);
        lookAt(x, 0, 0, 1);
        x.seen(3, 7);
        lookAt(x, 0, NONE, NONE);
        GuestStones y = tower(6);
        lookAt(y, 1, NONE, NONE);
        lookAt(y, 0, 0, 1);
    }

    static void lookWhereNoneWasSeen() {
        of(26, "LOOK: the COLUMN (of which there is no SIGHT) to look at");
        // B0: 2 2 0 0; B1: 1 2 2 0; B2: 1 1 1 1, on A at 0: COLUMN 2 tells all three.
        GuestStones x = walled(4, 2, 1, 50, 2, 1, 0);
        build(x, "A0");
        lookAt(x, 1, 2, 1);
        x.seen(2, 2);
        // B1 alone is left.
        lookAt(x, 1, 0, 1);
        x.forget();
        x.seen(0, 1);
        // B1 and B2 are left: COLUMN 1 tells them.
        lookAt(x, 1, 1, 1);
        x.seen(1, 2);
        lookAt(x, 1, 2, 1);
        x.seen(2, 2);
        lookAt(x, 1, 3, 1);
        x.seen(3, 0);
        lookAt(x, 1, NONE, NONE);
    }

    static void lookForTheFewest() {
        of(26, "so that, however HIGH it is, fewest rows are left at the most");
        // Of ten 1 WIDE in two COLUMNS: A is in COLUMN 0 or in 1; either way ten.
        GuestStones x = ten(2);
        lookAt(x, 1, 0, 10);
        // Of two: 2 0, 1 1 twice, 0 2: 90, 180, 90.
        lookAt(x, 2, 0, 180);
        // The most there can be, in the last COLUMN: not the sum, not the number of heights.
        GuestStones y = walled(3, 1, 1, 50, 2, 1, 50, 2, 1, 50);
        // A: 1 0 0, 0 1 0, 0 0 1; B and C: 1 1 0, 0 1 1. COLUMN 0: 4 of 7; 1: 5; 2: 4.
        rows(y, 1, 7, 7, 0);
        lookAt(y, 1, 0, 4);
        y.seen(0, 0);
        // 0 1 0, 0 0 1, 0 1 1 twice: COLUMN 1: 3; 2: 3.
        lookAt(y, 1, 1, 3);
        y.forget();
        build(y, "A1");
        // B and C at 0 and 1, on A: 2 2 0, 0 2 2: each twice.
        lookAt(y, 1, 0, 2);
    }

    static void lookIfALaterOneIsBetter() {
        of(26, "fewest rows are left at the most");
        // B0: 2 0; B1: 1 1; C0: 2 2, on A: the last COLUMN tells all three.
        GuestStones x = walled(2, 1, 1, 50, 1, 1, 50, 2, 1, 50);
        build(x, "A0");
        lookAt(x, 1, 1, 1);
        x.seen(0, 2);
        lookAt(x, 1, 1, 1);
        // The first one tells nothing: A BEARS no more, B and C lie at 1 or at 2.
        GuestStones y = walled(3, 1, 1, 0, 1, 1, 50, 1, 1, 50);
        build(y, "A0");
        lookAt(y, 1, 1, 2);
        // The better one is no more looked at, once it is seen.
        y.seen(1, 0);
        lookAt(y, 1, 0, 2);
    }

    static void lookTellsTheLeast() {
        of(26, "the least; how many.");
        GuestStones x = ten(9);
        // Any COLUMN: in ten rows it is 1 HIGH, in eighty 0.
        lookAt(x, 1, 0, 80);
        x.seen(0, 0);
        // 80 are left; COLUMN 1: 70.
        lookAt(x, 1, 1, 70);
        x.seen(3, 0);
        lookAt(x, 1, 1, 60);
        x.seen(1, 0);
        lookAt(x, 1, 2, 50);
        x.seen(2, 1);
        lookAt(x, 1, 4, 10);
    }

    static void lookAtTheGreatestHeight() {
        of(26, "however HIGH it is");
        GuestStones x = ten(2);
        x.guest(9, 1, 1, 1);
        build(x, "A0B0C0D0E0F0G0H0I0");
        // J0: 10 0; J1: 9 1.
        lookAt(x, 1, 0, 1);
        x.seen(0, 10);
        lookAt(x, 1, 1, 1);
        x.forget();
        // 2 WIDE, on both: 10 10, and no other.
        x.guest(9, 2, 1, 1);
        lookAt(x, 1, 0, 1);
        x.seen(0, 10);
        lookAt(x, 1, 1, 1);
        rows(x, 1, 1, 512, 512);
    }

    static void lookIsOfNow() {
        of(26, "the COLUMN (of which there is no SIGHT) to look at");
        GuestStones x = pair();
        write(x, "C0");
        lookAt(x, 1, 0, 2);
        due("nothing is put", x.told(3), 0);
        due("nothing is seen", x.told(4), 0);
        due("the PAD stays", x.told(0), 2);
        x.done();
        // A0 alone.
        lookAt(x, 1, 0, 1);
    }

    static void lookRefusesOtherNumbers() {
        of(26, "OUTSIDE.");
        GuestStones x = pair();
        refusedBeyond("m", m -> x.look(m, 0), 0, 2, OUTSIDE);
        refusedBeyond("what", what -> x.look(0, what), 0, 1, OUTSIDE);
        x.seen(0, 9);
        refusedBeyond("m without rows", m -> x.look(m, 0), 0, 2, OUTSIDE);
        refusedBeyond("what without rows", what -> x.look(0, what), 0, 1, OUTSIDE);
        due("a what of who", x.look(0, 2), OUTSIDE);
    }

    // ---- promise 27: weak

    static void weakTells() {
        of(27, "WEAK: that none is (what = 0), the mean (1).");
        // A: 8 of 10, weak 5; B: 12 of 20, weak 10; C and D have no LOAD.
        GuestStones x = overhang();
        due("that none is: the upper", x.weak(3, 0, 0), 49);
        due("that none is: the lower", x.weak(3, 0, 1), 100);
        due("the mean: the upper", x.weak(3, 1, 0), 3);
        due("the mean: the lower", x.weak(3, 1, 1), 5);
    }

    static void weakByTenths() {
        of(27, "each STONE in the WALL, each by itself, is weak with t tenths (0 to 10)");
        GuestStones x = overhang();
        int[][] none = {{1, 1}, {81, 100}, {16, 25}, {49, 100}, {9, 25}, {1, 4}, {4, 25}, {9, 100}, {1, 25}, {1, 100}, {0, 1}};
        int[][] mean = {{0, 1}, {1, 5}, {2, 5}, {3, 5}, {4, 5}, {1, 1}, {6, 5}, {7, 5}, {8, 5}, {9, 5}, {2, 1}};
        for (int t = 0; t <= 10; t++) {
            weakness(x, t, none[t], mean[t]);
        }
    }

    static void weakOfNoStones() {
        of(27, "WEAK: each STONE in the WALL");
        GuestStones x = new GuestStones();
        for (int t = 0; t <= 10; t += 5) {
            weakness(x, t, by(1, 1), by(0, 1));
        }
        // Those that are not in the WALL, and those with nothing on them that BEAR 0.
        x.guest(0, 1, 1, 0);
        weakness(x, 10, by(1, 1), by(0, 1));
        build(x, "A0");
        weakness(x, 10, by(1, 1), by(0, 1));
        x.guest(1, 1, 1, 0);
        write(x, "B1");
        weakness(x, 10, by(1, 1), by(0, 1));
        // Of each, whosever it is: J's on I's, and no other's.
        GuestStones y = new GuestStones();
        y.guest(0, 1, 1, 1);
        y.guest(8, 1, 1, 1);
        y.guest(9, 1, 1, 1);
        build(y, "I0J0");
        weakness(y, 3, by(7, 10), by(3, 10));
        build(y, "J-I-J0I0");
        weakness(y, 3, by(7, 10), by(3, 10));
    }

    static void weakByHalf() {
        of(27, "and BEARS half then (cut)");
        int[] bears = {2, 3, 4, 5, 1, 6, 7, 2, 3, 5, 4};
        int[] loads = {1, 1, 2, 2, 1, 3, 3, 2, 2, 3, 3};
        for (int i = 0; i < bears.length; i++) {
            GuestStones x = stones(1, 1, bears[i], 1, loads[i], 0);
            build(x, "A0B0");
            boolean holds = loads[i] <= bears[i] / 2;
            weakness(x, 4, holds ? by(1, 1) : by(3, 5), holds ? by(0, 1) : by(2, 5));
        }
        // Half of 200 is 100, of 199 it is 99.
        for (int most = 199; most <= 200; most++) {
            GuestStones y = stones(1, 1, most, 1, 20, 200, 1, 20, 200, 1, 20, 200, 1, 20, 200, 1, 19, 200, 1, 1, 200, 1, 1, 200);
            build(y, "A0B0C0D0E0F0");
            loaded(y, 0, 99, 1);
            weakness(y, 10, by(1, 1), by(0, 1));
            build(y, "G0");
            loaded(y, 0, 100, 1);
            weakness(y, 10, most == 200 ? by(1, 1) : by(0, 1), most == 200 ? by(0, 1) : by(1, 1));
            build(y, "H0");
            weakness(y, 10, by(0, 1), by(1, 1));
        }
    }

    static void weakByFractions() {
        of(27, "that no LOAD is more than it BEARS");
        // 5 halves of 4 and of 5: more than 2 either way; 5 halves of 6: less than 3.
        int[] bears = {4, 5, 6};
        for (int i = 0; i < 3; i++) {
            GuestStones x = walled(9, 1, 1, bears[i], 1, 1, 50, 2, 5, 0);
            build(x, "A0B1C0");
            loaded(x, 0, 5, 2);
            weakness(x, 1, i < 2 ? by(9, 10) : by(1, 1), i < 2 ? by(1, 10) : by(0, 1));
        }
    }

    static void weakEachByItself() {
        of(27, "each by itself");
        // Nine that may break, one below another.
        GuestStones x = new GuestStones();
        for (int g = 0; g < 10; g++) {
            x.guest(g, 1, 1, 9 - g);
        }
        build(x, "A0B0C0D0E0F0G0H0I0J0");
        due("all nine hold: the upper", x.weak(1, 0, 0), 387420489L);
        due("all nine hold: the lower", x.weak(1, 0, 1), 1000000000L);
        due("all nine hold, by 9: the upper", x.weak(9, 0, 0), 1L);
        due("all nine hold, by 9: the lower", x.weak(9, 0, 1), 1000000000L);
        weakness(x, 5, by(1, 512), by(9, 2));
        weakness(x, 10, by(0, 1), by(9, 1));
        weakness(x, 0, by(1, 1), by(0, 1));
        fraction("the mean", x.weak(1, 1, 0), x.weak(1, 1, 1), 9, 10);
    }

    static void weakMean() {
        of(27, "the mean of those whose is.");
        // One that may break: t tenths.
        GuestStones x = stones(1, 1, 1, 1, 1, 0);
        build(x, "A0B0");
        weakness(x, 1, by(9, 10), by(1, 10));
        weakness(x, 5, by(1, 2), by(1, 2));
        weakness(x, 10, by(0, 1), by(1, 1));
        // Now, not behind.
        write(x, "B-");
        weakness(x, 10, by(0, 1), by(1, 1));
        x.done();
        weakness(x, 10, by(1, 1), by(0, 1));
    }

    static void weakRefusesOtherNumbers() {
        of(27, "OUTSIDE.");
        GuestStones x = overhang();
        refusedBeyond("t", t -> x.weak(t, 0, 0), 0, 10, LOST - 2);
        refusedBeyond("what", what -> x.weak(0, what, 0), 0, 1, LOST - 2);
        refusedBeyond("part", part -> x.weak(0, 0, part), 0, 1, LOST - 2);
        refusedBeyond("part of the mean", part -> x.weak(10, 1, part), 0, 1, LOST - 2);
        refusedBeyond("all of them", n -> x.weak(n, n, n), 0, 10, LOST - 2);
    }

    // ---- promise 28: year

    static void yearTells() {
        of(28, "A YEAR: put (what = 0), taken (1), HEIGHT (2).");
        // E at 1; E again: out; C at 3; A at 1.
        GuestStones x = stones(2, 1, 10, 1, 1, 10, 1, 1, 10, 1, 1, 10, 1, 1, 10);
        due("put", x.year(0, 4, 0), 3);
        due("taken", x.year(0, 4, 1), 1);
        due("HEIGHT", x.year(0, 4, 2), 1);
    }

    static void yearNights() {
        of(28, "of m nights (1 to 99)");
        // E1, E out, C3, A1, B0, J4, B out, E4 on J.
        GuestStones x = ten(6);
        int[] put = {1, 1, 2, 3, 4, 5, 5, 6};
        int[] taken = {0, 1, 1, 1, 1, 1, 2, 2};
        int[] high = {1, 1, 1, 1, 1, 1, 1, 2};
        for (int m = 1; m <= 8; m++) {
            drawn(x, 0, m, put[m - 1], taken[m - 1], high[m - 1]);
        }
        for (int m : new int[] {0, -1, 100, 101}) {
            due("m " + m, x.year(0, m, 0), OUTSIDE);
        }
        // Of one GUEST alone, who puts and takes in turn: as often as he comes.
        GuestStones y = new GuestStones();
        y.guest(4, 1, 1, 1);
        int puts = y.year(0, 99, 0);
        int takes = y.year(0, 99, 1);
        int before = y.year(0, 98, 0) + y.year(0, 98, 1);
        int comes = 0;
        int x99 = 0;
        for (int night = 1; night <= 99; night++) {
            x99 = (75 * x99 + 74) % 65537;
            comes += x99 % 10 == 4 ? 1 : 0;
        }
        due("he comes", puts + takes, comes);
        due("but for the last night", before, comes - (x99 % 10 == 4 ? 1 : 0));
    }

    static void yearCounts() {
        of(28, "how many are put; how many taken; the greatest HEIGHT behind any of the nights.");
        // E is put at 1 and taken out; C at 3, A at 1, B at 0; J not, on C; B is taken out; E not, on C.
        GuestStones x = ten(6);
        x.guest(2, 3, 1, 0);
        due("put", x.year(0, 8, 0), 4);
        due("taken", x.year(0, 8, 1), 2);
        due("HEIGHT", x.year(0, 8, 2), 1);
        GuestStones none = new GuestStones();
        due("put by nobody", none.year(0, 99, 0), 0);
        due("taken by nobody", none.year(0, 99, 1), 0);
        due("HEIGHT of an empty WALL", none.year(0, 99, 2), 0);
    }

    static void yearSeeds() {
        of(28, "A YEAR by a seed (0 to 9999)");
        // 0: E at 1. 1: J at 2. 9999: C at 5, D at 5. 874: H at 2.
        String[] first = {"E", "J", "C", "H"};
        int[] seeds = {0, 1, 9999, 874};
        for (int i = 0; i < 4; i++) {
            for (int g = 0; g < 10; g++) {
                GuestStones x = new GuestStones();
                x.guest(g, 1, 1, 1);
                due("seed " + seeds[i] + ", guest " + g, x.year(seeds[i], 1, 0), g == first[i].charAt(0) - 'A' ? 1 : 0);
            }
        }
        GuestStones y = ten(6);
        due("seed -1", y.year(-1, 1, 0), OUTSIDE);
        due("seed 10000", y.year(10000, 1, 0), OUTSIDE);
    }

    static void yearFromAllAsItIs() {
        of(28, "from all as it is");
        GuestStones x = ten(6);
        build(x, "E1A1");
        // E at 1 is in the WALL, and A on it: it can not be taken out; then the same; C3; A out.
        drawn(x, 0, 1, 0, 0, 2);
        drawn(x, 0, 2, 0, 0, 2);
        drawn(x, 0, 4, 1, 1, 2);
        // The PAD and the SIGHTS are nothing to it.
        build(x, "A-E-");
        write(x, "E1");
        x.seen(0, 9);
        drawn(x, 0, 2, 1, 1, 1);
    }

    static void yearDraws() {
        of(28, "x becomes (75 x and 74) left over by 65537");
        // 9999: 29092, 19253, 2235, 36625, 59932: C5, D5, F1, F out, C out, if D is not on it.
        GuestStones x = ten(6);
        drawn(x, 9999, 1, 1, 0, 1);
        drawn(x, 9999, 2, 2, 0, 2);
        drawn(x, 9999, 3, 3, 0, 2);
        drawn(x, 9999, 4, 3, 1, 2);
        drawn(x, 9999, 5, 3, 1, 2);
        // 1: 149, 11249, 57305, 38044, 35283, 24819, 26463: J2, J out, F0, E0, D0, J3, D out.
        drawn(x, 1, 2, 1, 1, 1);
        drawn(x, 1, 4, 3, 1, 2);
        drawn(x, 1, 5, 4, 1, 3);
        drawn(x, 1, 6, 5, 1, 3);
        drawn(x, 1, 7, 5, 2, 3);
    }

    static void yearGuestAndColumn() {
        of(28, "GUEST x left over by 10 puts his STONE at COLUMN x by 10 (cut) left over by n, if that can be;");
        // 9999: C at 2909 left over by n; 2 WIDE it is beyond at the last COLUMN alone.
        int[] left = {1, 2, 1, 4, 5, 4, 5, 2};
        for (int n = 2; n <= 9; n++) {
            GuestStones x = new GuestStones();
            x.wall(n);
            x.guest(2, 2, 1, 1);
            due("2 WIDE, n " + n, x.year(9999, 1, 0), left[n - 2] + 2 <= n ? 1 : 0);
            x.guest(2, 1, 1, 1);
            for (int c = 0; c < n; c++) {
                // Two HIGH, if it is the COLUMN of one that lies there.
                x.guest(0, 1, 1, 1);
                build(x, "A" + c);
                due("on COLUMN " + c + " of " + n, x.year(9999, 1, 2), c == left[n - 2] ? 2 : 1);
                build(x, "A-");
            }
        }
    }

    static void yearElseHeTakesItOut() {
        of(28, "else he takes it out, if that can be");
        // E is in the WALL: it is taken out; with one on it neither.
        GuestStones x = ten(6);
        build(x, "E5");
        drawn(x, 0, 1, 0, 1, 0);
        drawn(x, 0, 2, 1, 1, 1);
        build(x, "A5");
        drawn(x, 0, 1, 0, 0, 2);
        // Who can not put it, by whatever reason, and has none in the WALL, takes none.
        GuestStones y = new GuestStones();
        drawn(y, 0, 99, 0, 0, 0);
        y.wall(2);
        y.guest(4, 2, 1, 1);
        // At 74 by 10 left over by 2: 1, beyond; then at 562: 0.
        drawn(y, 0, 1, 0, 0, 0);
        drawn(y, 0, 2, 1, 0, 1);
    }

    static void yearHeightBehindTheNights() {
        of(28, "the greatest HEIGHT behind any of the nights.");
        // Before the first night it is two, behind it one.
        GuestStones x = ten(6);
        build(x, "A0E0");
        drawn(x, 0, 1, 0, 1, 1);
        // Behind the second one: E at 4.
        drawn(x, 0, 2, 1, 1, 1);
        build(x, "E-A-A4");
        drawn(x, 0, 1, 1, 0, 1);
        drawn(x, 0, 2, 1, 1, 1);
        build(x, "A-A1");
        // E on A at 1; then E out: it was two.
        drawn(x, 0, 1, 1, 0, 2);
        drawn(x, 0, 2, 1, 1, 2);
        // The highest that there can be; then in the last COLUMN.
        GuestStones y = ten(6);
        build(y, "A1B1C1D1F1G1H1I1J1");
        drawn(y, 0, 1, 1, 0, 10);
        drawn(y, 0, 2, 1, 1, 10);
        GuestStones z = ten(6);
        build(z, "A5");
        drawn(z, 9999, 1, 1, 0, 2);
    }

    static void yearDoesNothingInFact() {
        of(28, "Nothing is DONE in fact.");
        GuestStones x = overhang();
        x.guest(4, 1, 1, 1);
        write(x, "D-");
        x.seen(0, 1);
        GuestStones same = overhang();
        same.guest(4, 1, 1, 1);
        write(same, "D-");
        same.seen(0, 1);
        x.year(0, 99, 0);
        x.year(9999, 99, 1);
        x.year(1234, 50, 2);
        due("nothing is changed", shown(x).equals(shown(same)) ? 1 : 0, 1);
    }

    static void yearRefusesOtherNumbers() {
        of(28, "OUTSIDE.");
        GuestStones x = ten(6);
        refusedBeyond("seed", seed -> x.year(seed, 1, 0), 0, 9999, OUTSIDE);
        refusedBeyond("m", m -> x.year(0, m, 0), 1, 99, OUTSIDE);
        refusedBeyond("what", what -> x.year(0, 1, what), 0, 2, OUTSIDE);
        refusedBeyond("all", n -> x.year(n, n, n), 0, 9999, OUTSIDE);
    }

    // ---- promise 29: image

    static void imageKeepsAllButThePad() {
        of(29, "All but the PAD is kept in an IMAGE (0, 1): 1.");
        for (int n = 0; n < 2; n++) {
            GuestStones x = overhang();
            x.guest(9, 3, 19, 199);
            x.seen(3, 3);
            x.seen(5, 0);
            write(x, "D-A");
            due("image", x.image(n), 1);
            due("the PAD stays", x.told(0), 3);
            x.wall(9);
            x.wipe();
            due("restore", x.restore(n), 1);
            due("the PAD is as it is now", x.told(0), 0);
            due("COLUMNS", x.told(1), 6);
            due("GUESTS", x.told(2), 512 + 15);
            due("STONES", x.told(3), 15);
            due("SIGHTS", x.told(4), 2);
            due("WIDE", x.told(100), 3);
            due("WEIGHT", x.told(101), 19);
            due("BEARS", x.told(102), 199);
            due("D's BEARS", x.told(42), 0);
            lies(x, 0, 1, 1);
            lies(x, 1, 0, 0);
            lies(x, 2, 0, 4);
            lies(x, 3, 2, 2);
            heights(x, 1, 2, 3, 3, 1, 0);
            loaded(x, 1, 12, 1);
            due("gaps(3)", x.gaps(3), 2);
            // Both SIGHTS, as they were.
            due("who(0, 0)", x.who(0, 0), 1);
            due("look(0, 0)", x.look(0, 0), 0);
            x.seen(0, 1);
            x.seen(1, 2);
            x.seen(2, 3);
            due("look(0, 0)", x.look(0, 0), 4);
        }
    }

    static void imageChangesNothing() {
        of(29, "All but the PAD is kept");
        GuestStones x = overhang();
        x.seen(3, 3);
        write(x, "D-");
        GuestStones same = overhang();
        same.seen(3, 3);
        write(same, "D-");
        due("image(0)", x.image(0), 1);
        due("image(1)", x.image(1), 1);
        due("nothing is changed", shown(x).equals(shown(same)) ? 1 : 0, 1);
    }

    static void imageIsNoPartOfWhatChanges() {
        of(29, "is kept in an IMAGE (0, 1)");
        GuestStones x = town();
        x.seen(0, 0);
        x.image(0);
        // Whatever is done then, the IMAGE is as it was kept.
        build(x, "B0A1");
        x.forget();
        x.guest(2, 3, 3, 3);
        x.seen(1, 1);
        x.seen(1, 1);
        x.image(1);
        x.wall(2);
        due("restore(0)", x.restore(0), 1);
        due("STONES", x.told(3), 0);
        due("SIGHTS", x.told(4), 1);
        due("C's WIDE", x.told(30), 1);
        rows(x, 0, 1, 0, 0);
        due("restore(1)", x.restore(1), 1);
        due("STONES", x.told(3), 3);
        due("SIGHTS", x.told(4), 2);
        due("C's WIDE", x.told(30), 3);
    }

    static void imageKeepsAnew() {
        of(29, "is kept in an IMAGE (0, 1): 1.");
        GuestStones x = new GuestStones();
        due("image(0)", x.image(0), 1);
        x.wall(3);
        due("image(1)", x.image(1), 1);
        x.wall(4);
        due("image(0) anew", x.image(0), 1);
        x.wall(5);
        x.restore(0);
        due("COLUMNS", x.told(1), 4);
        x.restore(1);
        due("COLUMNS", x.told(1), 3);
        // An empty one is kept as well as a full one.
        GuestStones y = tower(9);
        y.image(1);
        y.wall(9);
        y.image(0);
        y.restore(1);
        due("STONES", y.told(3), 1023);
        due("height(0)", y.height(0), 10);
        y.restore(0);
        due("STONES", y.told(3), 0);
        due("GUESTS", y.told(2), 0);
        due("height(0)", y.height(0), 0);
    }

    static void imageOfTheMost() {
        of(29, "All but the PAD is kept in an IMAGE (0, 1): 1.");
        // All GUESTS given, all STONES laid, eight SIGHTS, a full PAD.
        GuestStones x = tower(9);
        for (int i = 1; i <= 8; i++) {
            due("seen", x.seen(i, 0), i);
        }
        write(x, times(15, "J-J1"));
        due("image(1)", x.image(1), 1);
        due("the PAD stays", x.told(0), 60);
        x.wall(2);
        due("restore(1)", x.restore(1), 1);
        due("GUESTS", x.told(2), 1023);
        due("STONES", x.told(3), 1023);
        due("SIGHTS", x.told(4), 8);
        due("no more of them", x.seen(0, 0), FULL);
        due("the PAD", x.told(0), 60);
        due("all SIGHTS are so", x.who(0, 0), 1);
        lookAt(x, 0, 0, 1);
        due("done", x.done(), 30);
        due("one is not", x.who(0, 0), 0);
    }

    static void imageRefuses() {
        of(29, "OUTSIDE.");
        GuestStones x = overhang();
        refusedBeyond("image", x::image, 0, 1, OUTSIDE);
        due("restore(0)", x.restore(0), STATE);
        due("restore(1)", x.restore(1), STATE);
    }

    // ---- promise 30: restore

    static void restoreIsAsItWas() {
        of(30, "It is as it was when it was kept: 1.");
        GuestStones x = overhang();
        GuestStones same = overhang();
        x.seen(3, 3);
        same.seen(3, 3);
        x.image(0);
        x.wall(9);
        x.guest(5, 3, 20, 1);
        build(x, "F6");
        x.seen(8, 1);
        due("restore(0)", x.restore(0), 1);
        due("all is as it was", shown(x).equals(shown(same)) ? 1 : 0, 1);
    }

    static void restoreAgain() {
        of(30, "It is as it was when it was kept");
        GuestStones x = overhang();
        x.image(1);
        for (int i = 0; i < 3; i++) {
            build(x, "D-C-A-");
            x.guest(0, 1, 1, 1);
            x.seen(0, 0);
            due("STONES", x.told(3), 2);
            due("restore(1)", x.restore(1), 1);
            due("STONES", x.told(3), 15);
            due("A's WIDE", x.told(10), 2);
            due("SIGHTS", x.told(4), 0);
            heights(x, 1, 2, 3, 3, 1, 0);
        }
        due("twice", x.restore(1), 1);
        due("STONES", x.told(3), 15);
        build(x, "D-");
        judged(x, "D2C-C2", 2, 4);
    }

    static void restoreLeavesThePad() {
        of(30, "It is as it was when it was kept");
        GuestStones x = town();
        write(x, "A0");
        x.image(0);
        write(x, "B0A1C");
        due("restore(0)", x.restore(0), 1);
        due("the PAD stays", x.told(0), 5);
        due("fault", x.fault(), 5);
        due("the PAD goes on", x.say('4'), 6);
        due("judge(0)", x.judge(0), NONE);
        due("behind(2, 1)", x.behind(2, 1), 4);
        // A full one too.
        write(x, times(15, "A0A-"));
        x.restore(0);
        due("it is full still", x.say('A'), FULL);
        due("done", x.done(), 30);
    }

    static void restoreRefuses() {
        of(30, "OUTSIDE;");
        GuestStones x = overhang();
        refusedBeyond("restore of none", x::restore, 0, 1, OUTSIDE);
        x.image(0);
        x.image(1);
        build(x, "D-");
        refusedBeyond("restore", x::restore, 0, 1, OUTSIDE);
        due("told(3)", x.told(3), 7);
    }

    static void restoreOfWhatWasNotKept() {
        of(30, "STATE: it was not.");
        GuestStones x = overhang();
        due("restore(0)", x.restore(0), STATE);
        due("restore(1)", x.restore(1), STATE);
        due("a refused image", x.image(2), OUTSIDE);
        due("restore(0)", x.restore(0), STATE);
        x.image(1);
        due("restore(0), 1 is kept", x.restore(0), STATE);
        due("restore(1)", x.restore(1), 1);
        due("restore(0), 1 is restored", x.restore(0), STATE);
        GuestStones y = overhang();
        y.image(0);
        due("restore(1), 0 is kept", y.restore(1), STATE);
        due("told(3)", y.told(3), 15);
    }

    // ---- promise 31: told

    static void toldSigns() {
        of(31, "0 signs");
        GuestStones x = new GuestStones();
        due("none", x.told(0), 0);
        x.say('A');
        due("one", x.told(0), 1);
        for (int i = 0; i < 62; i++) {
            x.say('~');
        }
        due("the most", x.told(0), 60);
        x.wipe();
        due("none", x.told(0), 0);
    }

    static void toldColumns() {
        of(31, "1 COLUMNS");
        GuestStones x = new GuestStones();
        due("at first", x.told(1), 6);
        for (int n = 2; n <= 9; n++) {
            x.wall(n);
            due("behind wall(" + n + ")", x.told(1), n);
        }
    }

    static void toldGuests() {
        of(31, "2 GUESTS who have a STONE (bits)");
        GuestStones x = new GuestStones();
        due("none", x.told(2), 0);
        x.guest(0, 1, 1, 50);
        due("A", x.told(2), 1);
        x.guest(9, 1, 1, 50);
        due("A and J", x.told(2), 513);
        build(x, "A0");
        due("in the WALL too", x.told(2), 513);
        build(x, "A-");
        due("taken out too", x.told(2), 513);
        due("all", ten(6).told(2), 1023);
    }

    static void toldStones() {
        of(31, "3 STONES in the WALL (bits)");
        GuestStones x = ten(6);
        due("none", x.told(3), 0);
        write(x, "A0J1");
        due("on the PAD alone", x.told(3), 0);
        x.done();
        due("A and J", x.told(3), 513);
        build(x, "A-");
        due("J", x.told(3), 512);
        due("all", tower(6).told(3), 1023);
    }

    static void toldSights() {
        of(31, "4 SIGHTS");
        GuestStones x = new GuestStones();
        for (int i = 0; i <= 8; i++) {
            due("so many", x.told(4), i);
            x.seen(i % 6, i % 6);
        }
        due("the most", x.told(4), 8);
        x.forget();
        due("none", x.told(4), 0);
    }

    static void toldOfStones() {
        of(31, "10 times (1 and a GUEST who has a STONE) and 0 WIDE, 1 WEIGHT, 2 BEARS.");
        GuestStones x = new GuestStones();
        for (int g = 0; g < 10; g++) {
            x.guest(g, 1 + g % 3, 1 + 2 * g, 20 * g + g);
        }
        for (int g = 0; g < 10; g++) {
            due("WIDE of " + g, x.told(10 * (1 + g)), 1 + g % 3);
            due("WEIGHT of " + g, x.told(10 * (1 + g) + 1), 1 + 2 * g);
            due("BEARS of " + g, x.told(10 * (1 + g) + 2), 21 * g);
            for (int i = 3; i <= 9; i++) {
                due("there is no other of " + g, x.told(10 * (1 + g) + i), OUTSIDE);
            }
        }
        build(x, "A0");
        due("in the WALL too", x.told(12), 0);
    }

    static void toldOfOneWhoHasNone() {
        of(31, "(1 and a GUEST who has a STONE)");
        GuestStones x = new GuestStones();
        x.guest(4, 1, 2, 3);
        for (int g = 0; g < 10; g++) {
            due("WIDE of " + g, x.told(10 + 10 * g), g == 4 ? 1 : OUTSIDE);
            due("WEIGHT of " + g, x.told(11 + 10 * g), g == 4 ? 2 : OUTSIDE);
            due("BEARS of " + g, x.told(12 + 10 * g), g == 4 ? 3 : OUTSIDE);
        }
        x.wall(6);
        due("behind wall", x.told(50), OUTSIDE);
    }

    static void toldRefuses() {
        of(31, "OUTSIDE.");
        GuestStones x = tower(6);
        for (int what : new int[] {5, 6, 7, 8, 9, 13, 19, 103, 104, 109, 110, 111, 112, 120, 1000, 1010, -1, -2, -5, -9, -10, -11, -12, -20, -100}) {
            due("told(" + what + ")", x.told(what), OUTSIDE);
        }
        refusedBeyond("told", x::told, 0, 102, OUTSIDE);
    }
}
