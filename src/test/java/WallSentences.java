/** The document's sentences on walls, guests and the text of YEARS: part 1 of the terms, promises 1 to 6. */
final class WallSentences extends Sentence {

    // ---- promise 1: a new object

    static void newHasSixColumns() {
        of(1, "Six COLUMNS");
        GuestStones x = new GuestStones();
        due("told(1)", x.told(1), 6);
        due("height(5)", x.height(5), 0);
        due("height(6)", x.height(6), UNKNOWN);
        due("gaps(6)", x.gaps(6), UNKNOWN);
        due("seen(5, 0)", x.seen(5, 0), 1);
        due("seen(6, 0)", x.seen(6, 0), UNKNOWN);
        faulty(x, "A5", NONE);
        faulty(x, "A6", 1);
    }

    static void newHasSixAtFirst() {
        of(2, "6 at first");
        due("wall(2) of a new object", new GuestStones().wall(2), 6);
        due("wall(6) of a new object", new GuestStones().wall(6), 6);
        GuestStones x = stones(1, 1, 1, 3, 1, 1);
        fits(x, "A5B2");
        judged(x, "B4", 0, 2);
    }

    static void newHasNoStones() {
        of(1, "no STONES.");
        GuestStones x = new GuestStones();
        due("told(2)", x.told(2), 0);
        due("told(3)", x.told(3), 0);
        for (int g = 0; g < 10; g++) {
            lies(x, g, NONE, NONE);
            due("load", x.load(g, 0), LOST - 3);
            due("where", x.where(g), STATE);
        }
        strained(x, 0, 1);
        due("bulges", x.bulges(), 0);
        due("touch(-1)", x.touch(-1), 0);
        due("touch(0)", x.touch(0), NONE);
        due("gaps(-1)", x.gaps(-1), 0);
        due("key(0)", x.key(0), NONE);
        due("high(0)", x.high(0), 0);
        due("falls(1023)", x.falls(1023), 0);
        due("year(0, 99, 0)", x.year(0, 99, 0), 0);
    }

    static void newIsEmpty() {
        of(1, "empty at first.");
        heights(new GuestStones(), 0, 0, 0, 0, 0, 0);
        GuestStones x = new GuestStones();
        for (int c = -1; c < 6; c++) {
            due("gaps(" + c + ")", x.gaps(c), 0);
        }
    }

    static void newGuestsHaveNoneYet() {
        of(1, "each with a STONE, or none yet (at first)");
        GuestStones x = new GuestStones();
        for (int g = 0; g < 10; g++) {
            due("told of WIDE", x.told(10 + 10 * g), OUTSIDE);
            due("told of WEIGHT", x.told(11 + 10 * g), OUTSIDE);
            due("told of BEARS", x.told(12 + 10 * g), OUTSIDE);
            String who = String.valueOf((char) ('A' + g));
            judged(x, who + "0", 0, 1);
            judged(x, who + "-", 0, 1);
        }
        due("the first of them", x.guest(9, 1, 1, 0), 1);
        due("told(2)", x.told(2), 512);
    }

    static void newHasNothingElse() {
        of(1, "Six COLUMNS, no STONES.");
        GuestStones x = new GuestStones();
        due("told(0)", x.told(0), 0);
        due("told(4)", x.told(4), 0);
        due("restore(0)", x.restore(0), STATE);
        due("restore(1)", x.restore(1), STATE);
        due("wipe", x.wipe(), 0);
        due("forget", x.forget(), 0);
        due("fault", x.fault(), NONE);
        due("judge(0)", x.judge(0), NONE);
        due("orders(-1)", x.orders(-1), 1);
        due("done", x.done(), 0);
        due("who(0, 0)", x.who(0, 0), 1);
        due("look(0, 0)", x.look(0, 0), 0);
    }

    static void newIsApartFromOthers() {
        of(1, "Six COLUMNS, no STONES.");
        GuestStones other = new GuestStones();
        GuestStones x = overhang();
        x.seen(0, 0);
        x.image(0);
        x.say('A');
        x.wall(9);
        due("shown of the other", shown(other).equals(shown(new GuestStones())) ? 1 : 0, 1);
        due("restore(0) of the other", other.restore(0), STATE);
    }

    static void the512thCallAnswers() {
        of(1, "An object is used for at most 512 calls after it has been made");
        GuestStones x = new GuestStones();
        for (int call = 1; call <= 449; call += 64) {
            for (int i = 1; i <= 60; i++) {
                due("say", x.say('A'), i);
            }
            due("say 61", x.say('A'), FULL);
            due("fault", x.fault(), 1);
            due("wipe", x.wipe(), 60);
            due(call == 449 ? "the 512th call" : "told(0)", x.told(0), 0);
        }
    }

    // ---- promise 2: wall

    static void wallTellsWhichItWas() {
        of(2, "How many COLUMNS: which it was.");
        GuestStones x = new GuestStones();
        due("wall(9)", x.wall(9), 6);
        due("wall(2)", x.wall(2), 9);
        due("wall(2) again", x.wall(2), 2);
        due("a refused one", x.wall(10), OUTSIDE);
        due("wall(5)", x.wall(5), 2);
        due("told(1)", x.told(1), 5);
        x.image(0);
        x.wall(7);
        x.restore(0);
        due("wall(3) behind restore", x.wall(3), 5);
    }

    static void wallTakesTwoToNine() {
        of(2, "n 2 to 9;");
        GuestStones x = new GuestStones();
        int before = 6;
        for (int n = 2; n <= 9; n++) {
            due("wall(" + n + ")", x.wall(n), before);
            due("told(1)", x.told(1), n);
            before = n;
        }
        due("wall(1)", x.wall(1), OUTSIDE);
        due("wall(10)", x.wall(10), OUTSIDE);
        due("told(1)", x.told(1), 9);
    }

    static void wallHasColumnsBelowN() {
        of(2, "A WALL of COLUMNS 0 to n less 1");
        for (int n = 2; n <= 9; n++) {
            GuestStones x = walled(n, 1, 1, 1, 2, 1, 1);
            due("height(0) of " + n, x.height(0), 0);
            due("height(n - 1) of " + n, x.height(n - 1), 0);
            due("height(n) of " + n, x.height(n), UNKNOWN);
            due("gaps(n - 1) of " + n, x.gaps(n - 1), 0);
            due("gaps(n) of " + n, x.gaps(n), UNKNOWN);
            due("gate(n - 1) of " + n, x.gate(n - 1, 0, 1), 1);
            due("gate(n) of " + n, x.gate(n, 0, 1), UNKNOWN);
            due("seen(n - 1) of " + n, x.seen(n - 1, 1), 1);
            due("seen(n) of " + n, x.seen(n, 1), UNKNOWN);
            due("who puts at n - 1 of " + n, x.who(1, 0), 2);
            fits(x, "A" + (n - 1));
            fits(x, "B" + (n - 2));
            judged(x, "B" + (n - 1), 0, 2);
        }
    }

    static void wallIsEmptied() {
        of(2, "The WALL is empty");
        GuestStones x = tower(9);
        due("all are laid", x.told(3), 1023);
        due("wall(9)", x.wall(9), 9);
        due("told(3)", x.told(3), 0);
        heights(x, 0, 0, 0, 0, 0, 0, 0, 0, 0);
        for (int g = 0; g < 10; g++) {
            lies(x, g, NONE, NONE);
        }
        // Nothing of what lay there holds or bears a new one.
        giving(x, 2, 4, 10, 1, 3, 5);
        build(x, "B1A0");
        lies(x, 0, 1, 0);
        due("gaps(0)", x.gaps(0), 1);
        loaded(x, 1, 4, 1);
        due("touch(-1)", x.touch(-1), 1);
        due("key(1)", x.key(1), 1);
    }

    static void wallIsEmptiedBeyondItsColumnsToo() {
        of(2, "The WALL is empty");
        GuestStones x = walled(9, 3, 1, 50, 1, 1, 50);
        build(x, "A6B8");
        heights(x, 0, 0, 0, 0, 0, 0, 1, 1, 2);
        due("wall(2)", x.wall(2), 9);
        giving(x, 1, 1, 50);
        build(x, "A0");
        due("key(1)", x.key(1), 0);
        due("year's height", x.year(0, 1, 2), 1);
        due("high(0)", x.high(0), 1);
        due("wall(9)", x.wall(9), 2);
        heights(x, 0, 0, 0, 0, 0, 0, 0, 0, 0);
        due("high(0)", x.high(0), 0);
    }

    static void wallTakesTheStones() {
        of(2, "no GUEST has a STONE");
        GuestStones x = ten(6);
        due("all have one", x.told(2), 1023);
        x.wall(6);
        due("told(2)", x.told(2), 0);
        for (int g = 0; g < 10; g++) {
            due("told of WIDE", x.told(10 + 10 * g), OUTSIDE);
            due("where", x.where(g), STATE);
        }
        judged(x, "A0", 0, 1);
        due("gate", x.gate(0, 0, 1), 0);
        due("who(1, 0)", x.who(1, 0), 0);
        due("the first again", x.guest(4, 1, 1, 1), 1);
    }

    static void wallEndsSights() {
        of(2, "SIGHTS go.");
        GuestStones x = new GuestStones();
        for (int i = 1; i <= 8; i++) {
            due("seen", x.seen(5, 10), i);
        }
        due("who(0, 0)", x.who(0, 0), 0);
        due("wall(2)", x.wall(2), 6);
        due("told(4)", x.told(4), 0);
        due("who(0, 0)", x.who(0, 0), 1);
        due("look(0, 0)", x.look(0, 0), 0);
        due("forget", x.forget(), 0);
        due("seen", x.seen(1, 0), 1);
    }

    static void wallLeavesPadAndImages() {
        of(2, "The WALL is empty, no GUEST has a STONE, SIGHTS go.");
        GuestStones x = overhang();
        x.image(0);
        write(x, "D-A5");
        due("wall(5)", x.wall(5), 6);
        due("told(0)", x.told(0), 4);
        due("there is no COLUMN 5 now", x.fault(), 3);
        due("restore(0)", x.restore(0), 1);
        due("told(3)", x.told(3), 15);
        due("fault", x.fault(), NONE);
        due("restore(1)", x.restore(1), STATE);
    }

    static void wallRefuses() {
        of(2, "OUTSIDE.");
        GuestStones x = overhang();
        x.seen(0, 1);
        refusedBeyond("wall", x::wall, 2, 9, OUTSIDE);
        due("wall(0)", x.wall(0), OUTSIDE);
        due("told(3)", x.told(3), 15);
        due("told(4)", x.told(4), 1);
        due("told(1)", x.told(1), 6);
    }

    // ---- promise 3: guest

    static void guestCountsThoseWhoHaveOne() {
        of(3, "how many have one.");
        GuestStones x = new GuestStones();
        int[] order = {9, 0, 5, 4, 1, 8, 2, 7, 3, 6};
        for (int i = 0; i < 10; i++) {
            due("guest " + order[i], x.guest(order[i], 1, 1, 200), i + 1);
            due("the same again", x.guest(order[i], 2, 1, 200), i + 1);
        }
        due("told(2)", x.told(2), 1023);
        // In the WALL they have it still.
        build(x, "A0B2C4");
        due("with three in the WALL", x.guest(3, 1, 1, 1), 10);
    }

    static void guestHasThatStone() {
        of(3, "A GUEST has that STONE");
        GuestStones x = new GuestStones();
        x.guest(0, 3, 20, 200);
        x.guest(9, 1, 2, 3);
        x.guest(0, 2, 5, 7);
        due("WIDE", x.told(10), 2);
        due("WEIGHT", x.told(11), 5);
        due("BEARS", x.told(12), 7);
        due("J's WIDE", x.told(100), 1);
        due("J's WEIGHT", x.told(101), 2);
        due("J's BEARS", x.told(102), 3);
        // The last one given is the one that is put.
        fits(x, "A4");
        judged(x, "A5", 0, 2);
        judged(x, "J0A0", 1, 4);
    }

    static void guestHasThatStoneOnceItIsOut() {
        of(3, "STATE: it is in the WALL.");
        GuestStones x = stones(1, 1, 5, 2, 1, 5);
        build(x, "A0");
        due("A's is in the WALL", x.guest(0, 1, 1, 5), STATE);
        due("A's, another", x.guest(0, 3, 20, 200), STATE);
        due("WIDE", x.told(10), 1);
        due("BEARS", x.told(12), 5);
        due("B's is not", x.guest(1, 3, 2, 6), 2);
        write(x, "A-");
        due("it is taken out on the PAD alone", x.guest(0, 2, 2, 6), STATE);
        x.done();
        due("it is out", x.guest(0, 2, 2, 6), 2);
        due("WIDE", x.told(10), 2);
        write(x, "A0");
        due("it is put on the PAD alone", x.guest(0, 1, 3, 7), 2);
        due("WEIGHT", x.told(11), 3);
        x.done();
        x.wall(6);
        due("the WALL is another", x.guest(0, 1, 1, 1), 1);
    }

    static void guestKnowsZeroToNine() {
        of(3, "GUESTS 0 to 9 (A to J)");
        GuestStones x = new GuestStones();
        due("guest 0", x.guest(0, 1, 1, 1), 1);
        due("guest 9", x.guest(9, 1, 1, 1), 2);
        due("guest -1", x.guest(-1, 1, 1, 1), UNKNOWN);
        due("guest 10", x.guest(10, 1, 1, 1), UNKNOWN);
        build(x, "A0J1");
        lies(x, 0, 0, 0);
        lies(x, 9, 0, 1);
    }

    static void guestIsUnknown() {
        of(3, "UNKNOWN;");
        GuestStones x = new GuestStones();
        refusedBeyond("guest", g -> x.guest(g, 1, 1, 1), 0, 9, UNKNOWN);
        due("told(2)", x.told(2), 0);
    }

    static void guestWide() {
        of(3, "WIDE (1 to 3 COLUMNS)");
        GuestStones x = new GuestStones();
        for (int wide = 1; wide <= 3; wide++) {
            due("WIDE " + wide, x.guest(0, wide, 5, 5), 1);
            due("told(10)", x.told(10), wide);
        }
        refusedBeyond("WIDE", wide -> x.guest(0, wide, 5, 5), 1, 3, OUTSIDE);
        refusedBeyond("WIDE of one who has none", wide -> x.guest(1, wide, 5, 5), 1, 3, OUTSIDE);
        due("told(10)", x.told(10), 3);
    }

    static void guestWeight() {
        of(3, "WEIGHT (1 to 20)");
        GuestStones x = new GuestStones();
        for (int weight = 1; weight <= 20; weight++) {
            due("WEIGHT " + weight, x.guest(0, 1, weight, 5), 1);
            due("told(11)", x.told(11), weight);
        }
        refusedBeyond("WEIGHT", weight -> x.guest(0, 1, weight, 5), 1, 20, OUTSIDE);
        due("told(11)", x.told(11), 20);
    }

    static void guestBears() {
        of(3, "BEARS (0 to 200)");
        GuestStones x = new GuestStones();
        for (int bears : new int[] {0, 1, 100, 199, 200}) {
            due("BEARS " + bears, x.guest(0, 1, 5, bears), 1);
            due("told(12)", x.told(12), bears);
        }
        refusedBeyond("BEARS", bears -> x.guest(0, 1, 5, bears), 0, 200, OUTSIDE);
        due("told(12)", x.told(12), 200);
    }

    static void guestRefusesSeveralAtOnce() {
        of(3, "OUTSIDE;");
        GuestStones x = new GuestStones();
        due("all three", x.guest(0, 0, 0, -1), OUTSIDE);
        due("all three, far", x.guest(9, GREATEST, LEAST, GREATEST), OUTSIDE);
        due("WIDE and WEIGHT", x.guest(0, 4, 21, 0), OUTSIDE);
        due("WEIGHT and BEARS", x.guest(0, 1, 0, 201), OUTSIDE);
        due("WIDE and BEARS", x.guest(0, 0, 1, 201), OUTSIDE);
        due("told(2)", x.told(2), 0);
    }

    // ---- promise 3 and the terms: where a STONE lies

    static void stoneHasACellInEachColumn() {
        of(9, "A STONE lies in a row (0 the lowest), in as many COLUMNS side by side as it is WIDE: a cell in each.");
        for (int wide = 1; wide <= 3; wide++) {
            GuestStones x = walled(5, wide, 1, 50);
            build(x, "A1");
            lies(x, 0, 0, 1);
            heights(x, 0, 1, wide > 1 ? 1 : 0, wide > 2 ? 1 : 0, 0);
        }
    }

    static void stoneLiesFromItsLeftmostCell() {
        of(9, "To put a STONE at a COLUMN (its leftmost cell)");
        GuestStones x = walled(9, 3, 1, 50, 2, 1, 50, 1, 1, 50);
        build(x, "A0B7C3");
        lies(x, 0, 0, 0);
        lies(x, 1, 0, 7);
        lies(x, 2, 0, 3);
        heights(x, 1, 1, 1, 1, 0, 0, 0, 1, 1);
    }

    static void stoneLiesOnTheGreatestHeight() {
        of(9, "it lies in the row that is the greatest HEIGHT of the COLUMNS that it covers.");
        // Of two COLUMNS the right one is the higher, then the left one.
        for (int column = 0; column < 2; column++) {
            GuestStones x = walled(4, 1, 1, 50, 1, 1, 50, 2, 1, 50);
            build(x, "A1B1C" + column);
            lies(x, 2, 2, column);
        }
        // Of three COLUMNS the last one alone is the highest; then the first and the last.
        GuestStones y = walled(5, 3, 1, 50, 1, 1, 50, 1, 1, 50, 1, 1, 50, 3, 1, 50);
        build(y, "A0B0D2C2");
        heights(y, 2, 1, 3);
        judged(y, "E0", 0, 3);
        build(y, "C-E0");
        lies(y, 4, 2, 0);
        heights(y, 3, 3, 3, 0, 0);
        // A higher COLUMN beside those that it covers is nothing to it.
        GuestStones z = walled(5, 1, 1, 50, 1, 1, 50, 2, 1, 50);
        build(z, "A0B3C1");
        lies(z, 2, 0, 1);
    }

    static void heightIsOfTheHighestCell() {
        of(11, "HEIGHT of a COLUMN: the row of its highest cell and 1 (0: it is empty).");
        GuestStones x = ten(2);
        for (int g = 0; g < 10; g++) {
            due("height(0)", x.height(0), g);
            build(x, (char) ('A' + g) + "0");
        }
        heights(x, 10, 0);
        // Empty cells below the highest one do not make it less.
        GuestStones y = walled(3, 1, 1, 50, 1, 1, 50, 2, 1, 50);
        build(y, "A0B0C0");
        heights(y, 3, 3, 0);
        build(y, "C-");
        heights(y, 2, 0, 0);
    }

    // ---- promise 4: say

    static void sayCounts() {
        of(4, "A sign more: how many.");
        GuestStones x = new GuestStones();
        due("first", x.say('A'), 1);
        due("second", x.say('~'), 2);
        due("refused", x.say(32), OUTSIDE);
        due("third", x.say('!'), 3);
        due("told(0)", x.told(0), 3);
        x.wipe();
        due("first again", x.say('A'), 1);
        x.wipe();
        due("done", x.done(), 0);
        due("first again", x.say('A'), 1);
    }

    static void sayKeepsWhatIsSaid() {
        of(4, "YEARS are a text on a PAD");
        GuestStones x = stones(1, 1, 1, 2, 1, 1, 3, 1, 1);
        write(x, "C3B1A0");
        due("C's COLUMN", x.behind(2, 1), 3);
        due("B's COLUMN", x.behind(1, 1), 1);
        due("A's COLUMN", x.behind(0, 1), 0);
        due("told(0)", x.told(0), 6);
        due("told(3)", x.told(3), 0);
    }

    static void padHolds60Signs() {
        of(4, "60 SIGNS at most");
        GuestStones x = new GuestStones();
        for (int i = 1; i <= 60; i++) {
            due("say " + i, x.say('A'), i);
        }
        due("say 61", x.say('A'), FULL);
        due("told(0)", x.told(0), 60);
    }

    static void sayIsFull() {
        of(4, "FULL.");
        GuestStones x = stones(1, 1, 1);
        write(x, times(15, "A0A-"));
        for (int i = 0; i < 3; i++) {
            due("say 33", x.say(33), FULL);
            due("say 126", x.say(126), FULL);
            due("say A", x.say('A'), FULL);
        }
        due("fault", x.fault(), NONE);
        due("judge(0)", x.judge(0), NONE);
        due("done of a full PAD", x.done(), 30);
        due("there is room", x.say('A'), 1);
        write(x, times(60, "A"));
        due("full again", x.say('A'), FULL);
        due("wipe", x.wipe(), 60);
        due("there is room", x.say('A'), 1);
    }

    static void sayTakes33To126() {
        of(4, "codes 33 to 126");
        GuestStones x = new GuestStones();
        for (int code = 33; code <= 126; code++) {
            due("say(" + code + ")", x.say(code), 1);
            due("wipe", x.wipe(), 1);
        }
        due("say(32)", x.say(32), OUTSIDE);
        due("say(127)", x.say(127), OUTSIDE);
        due("told(0)", x.told(0), 0);
    }

    static void sayRefuses() {
        of(4, "OUTSIDE;");
        GuestStones x = new GuestStones();
        refusedBeyond("say", x::say, 33, 126, OUTSIDE);
        for (int code : new int[] {0, 9, 10, 128, 255, 256, 256 + 'A', 65536 + 'A', -65536 + 'A', 'A' - 256}) {
            due("say(" + code + ")", x.say(code), OUTSIDE);
        }
        due("told(0)", x.told(0), 0);
    }

    // ---- promise 5: wipe

    static void wipeTellsHowManyThereWere() {
        of(5, "how many there were.");
        GuestStones x = new GuestStones();
        due("of an empty PAD", x.wipe(), 0);
        x.say('A');
        due("of one", x.wipe(), 1);
        due("of none", x.wipe(), 0);
        x.say('A');
        x.say(32);
        x.say('0');
        due("of two and a refused one", x.wipe(), 2);
        for (int i = 0; i < 62; i++) {
            x.say('A');
        }
        due("of a full PAD", x.wipe(), 60);
        write(x, "");
        x.done();
        due("behind done", x.wipe(), 0);
    }

    static void wipeEndsSignsAlone() {
        of(5, "Signs go");
        GuestStones x = overhang();
        x.seen(2, 3);
        x.image(1);
        write(x, "D-A");
        due("fault", x.fault(), 3);
        due("wipe", x.wipe(), 3);
        due("told(0)", x.told(0), 0);
        due("fault", x.fault(), NONE);
        due("judge(0)", x.judge(0), NONE);
        due("behind(3, 0)", x.behind(3, 0), 2);
        due("done", x.done(), 0);
        due("told(1)", x.told(1), 6);
        due("told(2)", x.told(2), 15);
        due("told(3)", x.told(3), 15);
        due("told(4)", x.told(4), 1);
        due("restore(1)", x.restore(1), 1);
    }

    // ---- promise 6: fault

    static void faultIsNone() {
        of(6, "THE FAULT; NONE.");
        GuestStones x = new GuestStones();
        due("of an empty PAD", x.fault(), NONE);
        faulty(x, "A0", NONE);
        faulty(x, "J-", NONE);
        faulty(x, "A0J5B-A-A0", NONE);
        faulty(x, times(30, "E3"), NONE);
        // Whether an ACT can be is nothing to it.
        faulty(x, "A-A-", NONE);
    }

    static void faultLetters() {
        of(6, "of ACTS: a letter A to J");
        GuestStones x = new GuestStones();
        for (char letter = 'A'; letter <= 'J'; letter++) {
            faulty(x, letter + "0", NONE);
        }
        for (char sign : new char[] {'@', 'K', 'a', 'j', 'Z', '!', '~', '0', '5', '-'}) {
            faulty(x, sign + "0", 0);
            faulty(x, "A0" + sign + "0", 2);
        }
    }

    static void faultDigits() {
        of(6, "and a digit (that GUEST puts his STONE at that COLUMN)");
        GuestStones x = ten(9);
        for (int column = 0; column < 9; column++) {
            faulty(x, "A" + column, NONE);
            due("behind(0, 1)", x.behind(0, 1), column);
        }
        for (char sign : new char[] {'/', ':', '.', ' ' + 1, '~', 'A', 'J', '9'}) {
            faulty(x, "A" + sign, 1);
        }
    }

    static void faultTakenOut() {
        of(6, "or - (he takes it out).");
        GuestStones x = stones(1, 1, 1);
        faulty(x, "A0A-", NONE);
        due("behind(0, 0)", x.behind(0, 0), NONE);
        faulty(x, "A,", 1);
        faulty(x, "A.", 1);
        faulty(x, "--", 0);
        faulty(x, "-A", 0);
        faulty(x, "A_", 1);
        faulty(x, "A--", 2);
    }

    static void faultOfAColumnThatThereIsNot() {
        of(6, "(a digit of a COLUMN that there is not, too)");
        GuestStones x = new GuestStones();
        for (int n = 2; n <= 9; n++) {
            x.wall(n);
            faulty(x, "A" + (n - 1), NONE);
            faulty(x, "A" + n, 1);
            faulty(x, "A0B" + (n - 1) + "C" + n, 5);
        }
        // By the COLUMNS that there are now.
        write(x, "A8");
        x.image(0);
        due("fault of nine", x.fault(), NONE);
        x.wall(8);
        due("fault of eight", x.fault(), 1);
        x.restore(0);
        due("fault of nine again", x.fault(), NONE);
    }

    static void faultIsTheFirst() {
        of(6, "THE FAULT: the place (from 0 on) of the first sign that can not stand there");
        GuestStones x = new GuestStones();
        faulty(x, "K9", 0);
        faulty(x, "A9K9", 1);
        faulty(x, "A0K9", 2);
        faulty(x, "A0A9K9K9", 3);
        faulty(x, "!", 0);
        faulty(x, times(29, "A0") + "A6", 59);
        faulty(x, times(29, "A0") + "K0", 58);
        faulty(x, times(60, "A"), 1);
        faulty(x, times(60, "0"), 0);
    }

    static void faultIfMoreMustCome() {
        of(6, "the number of signs, if more must come.");
        GuestStones x = new GuestStones();
        faulty(x, "A", 1);
        faulty(x, "A0J", 3);
        faulty(x, times(29, "A0") + "A", 59);
        faulty(x, "K", 0);
        faulty(x, "A0K", 2);
        faulty(x, "A9A", 1);
        faulty(x, "A0", NONE);
    }
}
