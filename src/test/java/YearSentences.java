/** The document's sentences on YEARS and on what there is now: part 2 of the terms, promises 7 to 16. */
final class YearSentences extends Sentence {

    // ---- promise 7: judge

    static void judgeTellsActAndWhy() {
        of(7, "JUDGED: the ACT (what = 0), why (1); NONE.");
        GuestStones x = town();
        write(x, "B0A1D5");
        due("judge(0)", x.judge(0), 2);
        due("judge(1)", x.judge(1), 2);
        write(x, "B0A1");
        due("judge(0)", x.judge(0), NONE);
        due("judge(1)", x.judge(1), NONE);
        // Of no ACTS all can be.
        judged(x, "", NONE, NONE);
    }

    static void judgeTellsTheFirst() {
        of(7, "JUDGED: of YEARS the first ACT (from 0 on) that can not be, and why.");
        GuestStones x = town();
        judged(x, "A5A5", 0, 2);
        judged(x, "A-A5", 0, 1);
        judged(x, "A0A5A-", 1, 1);
        judged(x, "A0A-A-A5", 2, 1);
        // The last one of a full PAD, and the first one.
        judged(x, times(14, "A0A-") + "A0A0", 29, 1);
        judged(x, times(14, "A0A-") + "A0B5", 29, 2);
        judged(x, "E0" + times(29, "A5"), 0, 1);
        judged(x, times(15, "A0A-"), NONE, NONE);
    }

    static void judgeGoesOnFromNow() {
        of(7, "of YEARS the first ACT (from 0 on) that can not be, and why.");
        GuestStones x = town();
        build(x, "B0");
        judged(x, "B0", 0, 1);
        judged(x, "B-B1", NONE, NONE);
        judged(x, "A0B-", 1, 5);
        due("told(3)", x.told(3), 2);
        due("told(0)", x.told(0), 4);
        lies(x, 1, 0, 0);
        // What is said later, and given later, counts.
        write(x, "E0");
        due("judge(1)", x.judge(1), 1);
        x.guest(4, 1, 1, 1);
        due("judge(1)", x.judge(1), NONE);
    }

    static void judgeTellsTheLeastReason() {
        of(7, "An ACT can not be for the least of these reasons");
        // 1 and 2: a STONE in the WALL that would be beyond. 1 and 3, 1 and 4: on others.
        GuestStones x = walled(4, 3, 1, 50, 1, 1, 50, 1, 1, 0);
        judged(x, "A0A3", 1, 1);
        judged(x, "A0B0A0", 2, 1);
        judged(x, "B0C0B0", 2, 1);
        // 2 and 3: one of two cells that are left on the WALL would be held; 2 and 4: on C.
        judged(x, "B2A2", 1, 2);
        judged(x, "C3A3", 1, 2);
        judged(x, "C2B1A2", 2, 2);
        // 3 and 4: on C alone, that BEARS 0.
        judged(x, "C0A0", 1, 3);
        judged(x, "C1A1", 1, 3);
        judged(x, "C0B0", 1, 4);
        // 1 and 5 can not both be: what is not in the WALL has nothing right above it.
        judged(x, "A0B0C-", 2, 1);
        judged(x, "A0B0A-", 2, 5);
    }

    static void reasonOneOfAPut() {
        of(7, "1 he has no STONE, or it is in the WALL (-: is not);");
        GuestStones x = stones(1, 1, 50);
        for (char who = 'B'; who <= 'J'; who++) {
            judged(x, who + "0", 0, 1);
        }
        fits(x, "A0");
        judged(x, "A0A0", 1, 1);
        judged(x, "A0A1", 1, 1);
        fits(x, "A0A-A1");
        build(x, "A0");
        judged(x, "A0", 0, 1);
        judged(x, "A5", 0, 1);
        fits(x, "A-A0");
    }

    static void reasonOneOfTakingOut() {
        of(7, "(-: is not)");
        GuestStones x = stones(1, 1, 50);
        judged(x, "A-", 0, 1);
        judged(x, "J-", 0, 1);
        fits(x, "A0A-");
        judged(x, "A0A-A-", 2, 1);
        judged(x, "A0B-", 1, 1);
        build(x, "A0");
        fits(x, "A-");
        judged(x, "A-A-", 1, 1);
    }

    static void reasonTwo() {
        of(7, "2 it would be beyond the last COLUMN;");
        for (int n = 2; n <= 9; n++) {
            for (int wide = 1; wide <= 3; wide++) {
                GuestStones x = walled(n, wide, 1, 1);
                for (int column = 0; column < n; column++) {
                    boolean isBeyond = column + wide - 1 > n - 1;
                    judged(x, "A" + column, isBeyond ? 0 : NONE, isBeyond ? 2 : NONE);
                }
            }
        }
    }

    static void reasonThree() {
        of(7, "3 it would not STAND;");
        GuestStones x = walled(9, 1, 1, 50, 3, 1, 50, 3, 1, 50);
        judged(x, "A0B0", 1, 3);
        judged(x, "A1B0", 1, 3);
        judged(x, "A2B0", 1, 3);
        judged(x, "C0B2", 1, 3);
        fits(x, "C0B1");
        judged(x, "C2B0", 1, 3);
        fits(x, "C2B1");
        fits(x, "C2B2");
        fits(x, "C2B3");
        judged(x, "C2B4", 1, 3);
        fits(x, "C2B5");
    }

    static void standsByHalf() {
        of(7, "It STANDS, if its HELD cells are half of its cells, or more.");
        // Of one cell one; of two one or two; of three two or three, whichever they are.
        GuestStones x = walled(9, 1, 1, 50, 1, 1, 50, 1, 1, 50, 1, 1, 50, 2, 1, 50, 3, 1, 50);
        fits(x, "A0B0");
        fits(x, "A0E0");
        fits(x, "A1E0");
        fits(x, "A0B1E0");
        fits(x, "A0B1F0");
        fits(x, "A0C2F0");
        fits(x, "B1C2F0");
        fits(x, "A0B1C2F0");
        judged(x, "A0F0", 1, 3);
        judged(x, "B1F0", 1, 3);
        judged(x, "C2F0", 1, 3);
        fits(x, "F0");
        fits(x, "E0");
    }

    static void heldInRowZeroOrFromRightBelow() {
        of(7, "A cell of it is HELD, if it is in row 0, or there is a cell of another STONE right below it.");
        // On A and B the row is 2: what is two rows below, and what is beside, holds nothing.
        GuestStones x = walled(9, 1, 1, 50, 1, 1, 50, 1, 1, 50, 1, 1, 50, 1, 1, 50, 3, 1, 50);
        judged(x, "A0B0C1D2F0", 4, 3);
        fits(x, "A0B0C1D1F0");
        fits(x, "A0B0C2D2F0");
        judged(x, "A0B0F0", 2, 3);
        judged(x, "A1B1F0", 2, 3);
        judged(x, "C1D1A0B2F0", 4, 3);
        // Of an overhang the cell holds, too, where nothing is below it.
        GuestStones y = walled(9, 1, 1, 50, 2, 1, 50, 2, 1, 50);
        build(y, "A0B0C1");
        lies(y, 2, 2, 1);
        heights(y, 2, 3, 3);
    }

    static void reasonFour() {
        of(7, "4 some STONE's LOAD would be more than it BEARS;");
        // As much as it BEARS can be, one more can not.
        GuestStones x = stones(1, 1, 7, 1, 7, 50, 1, 8, 50, 1, 1, 50);
        fits(x, "A0B0");
        judged(x, "A0C0", 1, 4);
        judged(x, "A0B0D0", 2, 4);
        judged(x, "A0D0B0", 2, 4);
        fits(x, "A0D0");
        // BEARS 0: nothing on it.
        GuestStones y = stones(1, 1, 0, 1, 1, 0);
        judged(y, "A0B0", 1, 4);
        fits(y, "A0B1");
        // The most that there can be: nine of WEIGHT 20 on one.
        GuestStones z = new GuestStones();
        for (int g = 0; g < 10; g++) {
            z.guest(g, 1, 20, 180);
        }
        fits(z, "A0B0C0D0E0F0G0H0I0J0");
        z.guest(0, 1, 20, 179);
        judged(z, "A0B0C0D0E0F0G0H0I0J0", 9, 4);
    }

    static void reasonFourByFractions() {
        of(7, "4 some STONE's LOAD would be more than it BEARS;");
        // Thirds: 13 thirds on a STONE that BEARS 4, and on one that BEARS 5; 12 thirds on one of 4.
        GuestStones x = walled(9, 1, 1, 4, 2, 1, 50, 3, 13, 50, 1, 1, 5, 3, 12, 50);
        judged(x, "A0B1C0", 2, 4);
        fits(x, "D0B1C0");
        fits(x, "A0B1E0");
        // Halves: 3 halves on one that BEARS 1 and on one that BEARS 2.
        GuestStones y = walled(9, 1, 1, 1, 1, 1, 2, 2, 3, 50, 2, 2, 50);
        judged(y, "A0B1C0", 2, 4);
        judged(y, "B0A1C0", 2, 4);
        fits(y, "A0B1D0");
        judged(y, "B1C1", 1, 4);
        fits(y, "B1D1");
    }

    static void reasonFourOfSomeStone() {
        of(7, "some STONE's LOAD");
        // The lowest of four, and the one in the middle; not that right below the new one.
        GuestStones x = stones(1, 1, 2, 1, 1, 50, 1, 1, 50, 1, 1, 50);
        judged(x, "A0B0C0D0", 3, 4);
        judged(x, "B0A0C0D0", NONE, NONE);
        x.guest(0, 1, 1, 1);
        judged(x, "B0A0C0D0", 3, 4);
        // One of two that share; the greatest GUEST's as well as the least's.
        GuestStones y = new GuestStones();
        y.guest(9, 1, 1, 0);
        y.guest(8, 1, 1, 50);
        y.guest(4, 2, 1, 50);
        judged(y, "J0I1E0", 2, 4);
        judged(y, "I0J1E0", 2, 4);
        fits(y, "I0E0J2");
    }

    static void reasonFive() {
        of(7, "5 (-) some STONE's cell is right above one of its.");
        GuestStones x = walled(9, 3, 1, 50, 1, 1, 50, 3, 1, 50, 2, 1, 50);
        judged(x, "A3B3A-", 2, 5);
        judged(x, "A3B4A-", 2, 5);
        judged(x, "A3B5A-", 2, 5);
        fits(x, "A3B2A-");
        fits(x, "A3B6A-");
        judged(x, "A3C2A-", 2, 5);
        judged(x, "A3C4A-", 2, 5);
        judged(x, "A3D2A-", 2, 5);
        fits(x, "A3B3B-A-");
        fits(x, "A3C0A-");
        // The STONE above goes; the upper of two can.
        judged(x, "A3D3B3D-", 3, 5);
        fits(x, "A3D3B3B-D-A-");
    }

    static void reasonFiveIsOfRightAbove() {
        of(7, "is right above one of its.");
        // B lies under C's empty side, with a cell between: nothing is right above it.
        GuestStones x = walled(9, 1, 1, 50, 1, 1, 50, 2, 1, 50, 1, 1, 50);
        build(x, "B1A0D0C0");
        lies(x, 2, 2, 0);
        fits(x, "B-");
        judged(x, "D-", 0, 5);
        judged(x, "A-", 0, 5);
        fits(x, "C-D-A-");
        // And where C's cell is right above, it is held by it.
        GuestStones y = walled(9, 1, 1, 50, 1, 1, 50, 2, 1, 50);
        build(y, "B1A0C0");
        judged(y, "B-", 0, 5);
    }

    static void judgeRefusesOtherNumbers() {
        of(7, "OUTSIDE;");
        GuestStones x = town();
        refusedBeyond("judge", x::judge, 0, 1, OUTSIDE);
        write(x, "A5");
        refusedBeyond("judge", x::judge, 0, 1, OUTSIDE);
    }

    static void judgeRefusesAFault() {
        of(7, "NO: there is a FAULT.");
        GuestStones x = town();
        for (String text : new String[] {"A", "K0", "A6", "A0B", "A0B9", "-", "A5B", times(60, "A")}) {
            write(x, text);
            due("judge(0) of " + text, x.judge(0), NO);
            due("judge(1) of " + text, x.judge(1), NO);
        }
    }

    // ---- promise 8: done

    static void doneTellsActsAndEmptiesThePad() {
        of(8, "The YEARS on the PAD are DONE (it is empty then): ACTS.");
        GuestStones x = town();
        due("of an empty PAD", x.done(), 0);
        write(x, "A0");
        due("of one", x.done(), 1);
        due("told(0)", x.told(0), 0);
        due("wipe", x.wipe(), 0);
        due("again", x.done(), 0);
        lies(x, 0, 0, 0);
        write(x, times(15, "A-A0"));
        due("of thirty", x.done(), 30);
        due("told(0)", x.told(0), 0);
        due("fault", x.fault(), NONE);
        due("there is room", x.say('A'), 1);
    }

    static void doneMakesAllSo() {
        of(8, "DONE: all is so then.");
        GuestStones x = town();
        write(x, "B0A1C4D2C-C5");
        due("before", x.told(3), 0);
        due("done", x.done(), 6);
        due("told(3)", x.told(3), 15);
        lies(x, 0, 1, 1);
        lies(x, 1, 0, 0);
        lies(x, 2, 0, 5);
        lies(x, 3, 2, 2);
        heights(x, 1, 2, 3, 3, 0, 1);
        loaded(x, 1, 12, 1);
        build(x, "C-D-");
        due("told(3)", x.told(3), 3);
        due("told(2)", x.told(2), 15);
        heights(x, 1, 2, 2, 0, 0, 0);
        loaded(x, 1, 4, 1);
        build(x, "A-B-");
        due("told(3)", x.told(3), 0);
        heights(x, 0, 0, 0, 0, 0, 0);
    }

    static void doneOfAllTen() {
        of(8, "DONE: all is so then.");
        GuestStones x = tower(9);
        due("told(3)", x.told(3), 1023);
        build(x, "J-I-H-G-F-E-D-C-B-A-");
        due("told(3)", x.told(3), 0);
        build(x, "J0I1H2G3F4E5D6C7B8A0");
        lies(x, 0, 1, 0);
        due("told(3)", x.told(3), 1023);
    }

    static void doneRefusesAFault() {
        of(8, "NO: there is a FAULT, or an ACT that can not be.");
        GuestStones x = town();
        for (String text : new String[] {"A", "A0B", "A0A6", "A0-", "A0K"}) {
            write(x, text);
            due("done of " + text, x.done(), NO);
            due("the PAD stays", x.told(0), text.length());
            due("nothing is so", x.told(3), 0);
        }
        write(x, "A0B");
        due("done", x.done(), NO);
        x.say('2');
        due("there is no FAULT then", x.done(), 2);
    }

    static void doneRefusesWhatCanNotBe() {
        of(8, "or an ACT that can not be.");
        GuestStones x = town();
        for (String text : new String[] {"E0", "A-", "A5", "C0B0", "D0C0", "A0C0A-", "A0C5A0", times(14, "A0A-") + "A0A0"}) {
            write(x, text);
            due("done of " + text, x.done(), NO);
            due("the PAD stays", x.told(0), text.length());
            due("nothing is so", x.told(3), 0);
        }
        due("wipe", x.wipe(), 60);
        due("done", x.done(), 0);
    }

    // ---- promise 9: state

    static void stateTellsRowAndColumn() {
        of(9, "Of a GUEST's STONE: the row (what = 0), the COLUMN (1);");
        GuestStones x = overhang();
        lies(x, 0, 1, 1);
        lies(x, 1, 0, 0);
        lies(x, 2, 0, 4);
        lies(x, 3, 2, 2);
        GuestStones y = tower(9);
        for (int g = 0; g < 10; g++) {
            lies(y, g, g, 0);
        }
        GuestStones z = ten(9);
        build(z, "A8J8");
        lies(z, 0, 0, 8);
        lies(z, 9, 1, 8);
    }

    static void stateIsNone() {
        of(9, "NONE: not in the WALL.");
        GuestStones x = new GuestStones();
        for (int g = 0; g < 10; g++) {
            lies(x, g, NONE, NONE);
        }
        x.guest(0, 1, 1, 1);
        lies(x, 0, NONE, NONE);
        write(x, "A3");
        lies(x, 0, NONE, NONE);
        x.done();
        lies(x, 0, 0, 3);
        write(x, "A-");
        lies(x, 0, 0, 3);
        x.done();
        lies(x, 0, NONE, NONE);
    }

    static void stateKnowsTheGuests() {
        of(9, "UNKNOWN;");
        GuestStones x = tower(6);
        due("state(0, 0)", x.state(0, 0), 0);
        due("state(9, 0)", x.state(9, 0), 9);
        refusedBeyond("state row", g -> x.state(g, 0), 0, 9, UNKNOWN);
        refusedBeyond("state COLUMN", g -> x.state(g, 1), 0, 9, UNKNOWN);
    }

    static void stateRefusesOtherNumbers() {
        of(9, "OUTSIDE.");
        GuestStones x = overhang();
        refusedBeyond("state of one laid", what -> x.state(0, what), 0, 1, OUTSIDE);
        refusedBeyond("state of one without a STONE", what -> x.state(9, what), 0, 1, OUTSIDE);
    }

    // ---- promise 10: behind

    static void behindTellsRowAndColumn() {
        of(10, "BEHIND, likewise.");
        GuestStones x = town();
        write(x, "B0A1C4D2");
        int[] rows = {1, 0, 0, 2};
        int[] columns = {1, 0, 4, 2};
        for (int g = 0; g < 4; g++) {
            due("behind(" + g + ", 0)", x.behind(g, 0), rows[g]);
            due("behind(" + g + ", 1)", x.behind(g, 1), columns[g]);
        }
        GuestStones y = ten(9);
        write(y, "A8B8C8D8E8F8G8H8I8J8");
        due("behind(9, 0)", y.behind(9, 0), 9);
        due("behind(9, 1)", y.behind(9, 1), 8);
        due("behind(0, 0)", y.behind(0, 0), 0);
        due("height(8)", y.height(8), 10);
        // Behind a full PAD, whose last ACT counts.
        write(y, times(14, "A0A-") + "A3B4");
        due("behind(0, 1)", y.behind(0, 1), 3);
        due("behind(1, 1)", y.behind(1, 1), 4);
        due("height(4)", y.height(4), 1);
        due("height(8)", y.height(8), 0);
    }

    static void behindIsNotDone() {
        of(10, "BEHIND, likewise, not being DONE: a GUEST's STONE's row, its COLUMN (NONE: it is not in the WALL); a COLUMN's HEIGHT.");
        GuestStones x = town();
        write(x, "A0");
        due("behind(0, 1)", x.behind(0, 1), 0);
        due("height(1)", x.height(1), 1);
        due("told(3)", x.told(3), 0);
        due("told(0)", x.told(0), 2);
        lies(x, 0, NONE, NONE);
        due("again", x.behind(0, 1), 0);
        x.done();
        write(x, "A-A3");
        due("behind(0, 1)", x.behind(0, 1), 3);
        due("height(1)", x.height(1), 0);
        due("height(4)", x.height(4), 1);
        lies(x, 0, 0, 0);
    }

    static void behindIsNone() {
        of(10, "(NONE: it is not in the WALL)");
        GuestStones x = town();
        due("of an empty PAD", x.behind(0, 0), NONE);
        write(x, "A0");
        due("another GUEST's", x.behind(1, 0), NONE);
        due("of one without a STONE", x.behind(9, 1), NONE);
        x.done();
        write(x, "A-");
        due("taken out: its row", x.behind(0, 0), NONE);
        due("taken out: its COLUMN", x.behind(0, 1), NONE);
        x.wipe();
        due("of an empty PAD: as it is", x.behind(0, 0), 0);
    }

    static void behindKnowsTheGuests() {
        of(10, "UNKNOWN;");
        GuestStones x = tower(6);
        due("behind(0, 0)", x.behind(0, 0), 0);
        due("behind(9, 0)", x.behind(9, 0), 9);
        refusedBeyond("behind row", g -> x.behind(g, 0), 0, 9, UNKNOWN);
        refusedBeyond("behind COLUMN", g -> x.behind(g, 1), 0, 9, UNKNOWN);
    }

    static void behindRefusesOtherNumbers() {
        of(10, "OUTSIDE;");
        GuestStones x = overhang();
        refusedBeyond("behind of one laid", what -> x.behind(0, what), 0, 1, OUTSIDE);
        refusedBeyond("behind of one without a STONE", what -> x.behind(9, what), 0, 1, OUTSIDE);
    }

    static void behindRefusesAsDone() {
        of(10, "NO, as of done().");
        GuestStones x = overhang();
        for (String text : new String[] {"A", "D-A", "C6", "K0", "C-C-", "E0", "B-", "D-D5"}) {
            write(x, text);
            for (int g = 0; g < 10; g += 3) {
                due("behind row, " + text, x.behind(g, 0), NO);
                due("behind COLUMN, " + text, x.behind(g, 1), NO);
            }
        }
        x.wipe();
        due("of an empty PAD", x.behind(0, 0), 1);
    }

    // ---- promise 11: height

    static void heightIsBehind() {
        of(11, "HEIGHT, BEHIND, of a COLUMN.");
        GuestStones x = town();
        heights(x, 0, 0, 0, 0, 0, 0);
        write(x, "B0A1C4D2");
        heights(x, 1, 2, 3, 3, 1, 0);
        x.done();
        heights(x, 1, 2, 3, 3, 1, 0);
        write(x, "D-C-");
        heights(x, 1, 2, 2, 0, 0, 0);
        x.wipe();
        heights(x, 1, 2, 3, 3, 1, 0);
    }

    static void heightKnowsTheColumns() {
        of(11, "UNKNOWN;");
        for (int n = 2; n <= 9; n++) {
            GuestStones x = walled(n, 1, 1, 1);
            build(x, "A" + (n - 1));
            due("the last", x.height(n - 1), 1);
            refusedBeyond("height of " + n, x::height, 0, n - 1, UNKNOWN);
        }
    }

    static void heightRefusesAsDone() {
        of(11, "NO, likewise.");
        GuestStones x = overhang();
        for (String text : new String[] {"A", "D-A", "C6", "K0", "C-C-", "E0", "B-", "D-D5"}) {
            write(x, text);
            for (int c = 0; c < 6; c++) {
                due("height(" + c + "), " + text, x.height(c), NO);
            }
        }
        x.wipe();
        due("of an empty PAD", x.height(2), 3);
    }

    // ---- promise 12: load

    static void loadIsTold() {
        of(12, "LOAD.");
        GuestStones x = overhang();
        loaded(x, 0, 8, 1);
        loaded(x, 1, 12, 1);
        loaded(x, 2, 0, 1);
        loaded(x, 3, 0, 1);
    }

    static void loadIsOfNow() {
        of(12, "LOAD, now, of a STONE that is in the WALL.");
        GuestStones x = town();
        build(x, "B0");
        write(x, "A1");
        loaded(x, 1, 0, 1);
        x.done();
        loaded(x, 1, 4, 1);
        write(x, "A-");
        loaded(x, 1, 4, 1);
        x.done();
        loaded(x, 1, 0, 1);
        write(x, "A");
        loaded(x, 1, 0, 1);
    }

    static void loadGoesDown() {
        of(12, "LOAD: a STONE's WEIGHT, and the LOAD that is on it, go down");
        GuestStones x = new GuestStones();
        for (int g = 0; g < 10; g++) {
            x.guest(g, 1, g + 1, 200);
        }
        build(x, "A0B0C0D0E0F0G0H0I0J0");
        int load = 0;
        for (int g = 9; g >= 0; g--) {
            loaded(x, g, load, 1);
            load += g + 1;
        }
        // Its own WEIGHT is not on it: the greatest WEIGHT, with nothing on it, that BEARS 0.
        GuestStones y = stones(1, 20, 0);
        build(y, "A0");
        loaded(y, 0, 0, 1);
    }

    static void loadGoesInEqualShares() {
        of(12, "in equal shares by its HELD cells");
        // Three HELD cells, on A, B and C.
        GuestStones x = walled(9, 1, 1, 50, 1, 1, 50, 1, 1, 50, 3, 10, 50);
        build(x, "A0B1C2D0");
        loaded(x, 0, 10, 3);
        loaded(x, 1, 10, 3);
        loaded(x, 2, 10, 3);
        // Two of three: halves; the cell that is not HELD passes nothing.
        build(x, "D-B-D0");
        loaded(x, 0, 5, 1);
        loaded(x, 2, 5, 1);
        // One of two: all.
        GuestStones y = walled(9, 1, 1, 50, 2, 7, 50);
        build(y, "A0B0");
        loaded(y, 0, 7, 1);
        // Two shares on the same STONE.
        GuestStones z = walled(9, 1, 1, 50, 2, 1, 50, 3, 13, 50);
        build(z, "A0B1C0");
        loaded(z, 0, 13, 3);
        loaded(z, 1, 26, 3);
    }

    static void loadGoesOnWhatIsRightBelow() {
        of(12, "each share on the STONE whose cell is right below");
        // C on A alone, though B is below its other cell, a row lower.
        GuestStones x = walled(9, 1, 1, 50, 1, 1, 50, 2, 6, 50, 1, 2, 50);
        build(x, "A0B1D0C0");
        loaded(x, 3, 6, 1);
        loaded(x, 0, 8, 1);
        loaded(x, 1, 0, 1);
        // What is above two of four goes to the two.
        GuestStones y = walled(9, 2, 1, 50, 2, 1, 50, 2, 6, 50);
        build(y, "A0B2C1");
        loaded(y, 0, 3, 1);
        loaded(y, 1, 3, 1);
    }

    static void loadOfRowZeroIsOnTheGround() {
        of(12, "(of row 0: on the ground).");
        GuestStones x = walled(9, 3, 20, 50, 1, 20, 50, 2, 20, 50);
        build(x, "A0B3C4");
        loaded(x, 0, 0, 1);
        loaded(x, 1, 0, 1);
        loaded(x, 2, 0, 1);
    }

    static void loadByManyShares() {
        of(12, "in equal shares by its HELD cells, each share on the STONE whose cell is right below (of row 0: on the ground).");
        // Thirds of thirds: J on I; I on F, G and H; F on A, B and C.
        GuestStones x = walled(9, 1, 1, 200, 1, 1, 200, 1, 1, 200, 1, 1, 200, 1, 1, 200, 3, 1, 200, 1, 1, 200, 1, 1, 200, 3, 1, 200, 1, 1, 200);
        build(x, "A0B1C2D3E4F0G3H4I2J3");
        loaded(x, 9, 0, 1);
        loaded(x, 8, 1, 1);
        loaded(x, 5, 2, 3);
        loaded(x, 6, 2, 3);
        loaded(x, 7, 2, 3);
        loaded(x, 0, 5, 9);
        loaded(x, 1, 5, 9);
        loaded(x, 2, 5, 9);
        loaded(x, 3, 5, 3);
        loaded(x, 4, 5, 3);
    }

    static void loadByHalvesOfHalves() {
        of(12, "in equal shares by its HELD cells, each share on the STONE whose cell is right below (of row 0: on the ground).");
        GuestStones x = walled(9, 2, 1, 200, 2, 1, 200, 2, 1, 200, 2, 1, 200, 2, 1, 200, 2, 1, 200, 2, 1, 200, 2, 1, 200, 2, 1, 200, 2, 1, 200);
        build(x, "A0B2C4D6E1F3G5H2I4J3");
        loaded(x, 9, 0, 1);
        loaded(x, 7, 1, 2);
        loaded(x, 8, 1, 2);
        loaded(x, 4, 3, 4);
        loaded(x, 5, 3, 2);
        loaded(x, 6, 3, 4);
        loaded(x, 0, 7, 8);
        loaded(x, 1, 17, 8);
        loaded(x, 2, 17, 8);
        loaded(x, 3, 7, 8);
    }

    static void loadByThirdsOneBelowAnother() {
        of(12, "in equal shares by its HELD cells, each share on the STONE whose cell is right below (of row 0: on the ground).");
        // Five steps up, each 3 WIDE: two of its cells on the step below, one on a pillar beside it.
        int[] numbers = new int[30];
        for (int g = 0; g < 10; g++) {
            numbers[3 * g] = 3;
            numbers[3 * g + 1] = 1;
            numbers[3 * g + 2] = 200;
        }
        GuestStones x = walled(9, numbers);
        build(x, "A0B3C1D4E2F5G3H6I4J5");
        loaded(x, 9, 0, 1);
        loaded(x, 8, 1, 1);
        loaded(x, 7, 2, 3);
        loaded(x, 6, 4, 3);
        loaded(x, 5, 22, 9);
        loaded(x, 4, 14, 9);
        loaded(x, 3, 116, 27);
        loaded(x, 2, 46, 27);
        loaded(x, 1, 502, 81);
        loaded(x, 0, 146, 81);
    }

    static void loadKnowsTheGuests() {
        of(12, "UNKNOWN;");
        GuestStones x = tower(6);
        loaded(x, 0, 9, 1);
        loaded(x, 9, 0, 1);
        refusedBeyond("load upper", g -> x.load(g, 0), 0, 9, LOST - 1);
        refusedBeyond("load lower", g -> x.load(g, 1), 0, 9, LOST - 1);
    }

    static void loadRefusesOtherNumbers() {
        of(12, "OUTSIDE;");
        GuestStones x = overhang();
        refusedBeyond("load of one laid", part -> x.load(0, part), 0, 1, LOST - 2);
        refusedBeyond("load of one without a STONE", part -> x.load(9, part), 0, 1, LOST - 2);
    }

    static void loadRefusesWhatIsNotInTheWall() {
        of(12, "STATE: it is not in the WALL.");
        GuestStones x = new GuestStones();
        for (int g = 0; g < 10; g++) {
            loaded(x, g, LOST - 3, LOST - 3);
        }
        x.guest(0, 1, 1, 1);
        loaded(x, 0, LOST - 3, LOST - 3);
        write(x, "A0");
        due("behind(0, 0)", x.behind(0, 0), 0);
        loaded(x, 0, LOST - 3, LOST - 3);
        x.done();
        loaded(x, 0, 0, 1);
        write(x, "A-");
        due("behind(0, 0)", x.behind(0, 0), NONE);
        loaded(x, 0, 0, 1);
        x.done();
        loaded(x, 0, LOST - 3, LOST - 3);
    }

    // ---- promise 13: strain

    static void strainIsTold() {
        of(13, "STRAIN.");
        strained(overhang(), 4, 5);
    }

    static void strainIsTheMost() {
        of(13, "STRAIN of the WALL: the most LOAD by what it BEARS of a STONE");
        // Not that of the most LOAD: 2 of 3 is more than 7 of 11 and 20 of 40.
        GuestStones x = walled(9, 1, 1, 40, 1, 1, 3, 1, 1, 11, 1, 20, 9, 1, 2, 9, 1, 7, 9);
        build(x, "A0B1C2D0E1F2");
        strained(x, 2, 3);
        build(x, "E-");
        strained(x, 7, 11);
        build(x, "F-");
        strained(x, 1, 2);
        build(x, "D-");
        strained(x, 0, 1);
        // All that it BEARS.
        GuestStones y = stones(1, 1, 7, 1, 7, 1);
        build(y, "A0B0");
        strained(y, 1, 1);
        y = stones(1, 1, 1, 1, 1, 0);
        build(y, "A0B0");
        strained(y, 1, 1);
        // The least that there can be, by one STONE on another: 1 of 200.
        GuestStones z = stones(1, 1, 200, 1, 1, 1);
        build(z, "A0B0");
        strained(z, 1, 200);
    }

    static void strainOfFractions() {
        of(13, "the most LOAD by what it BEARS of a STONE");
        // 13 thirds of 5; then 13 thirds of 7 beside 26 thirds of 13.
        GuestStones x = walled(9, 2, 1, 50, 1, 1, 5, 3, 13, 50, 2, 1, 13, 1, 1, 7);
        build(x, "A0B2C0");
        strained(x, 13, 15);
        build(x, "C-B-A-D0E2C0");
        strained(x, 2, 3);
    }

    static void strainIsOfNow() {
        of(13, "STRAIN of the WALL");
        // B WEIGHS 3 on A, that BEARS 3, then 9; what is asked behind the PAD is nothing to it.
        GuestStones x = stones(1, 1, 3, 1, 3, 0);
        build(x, "A0B0");
        x.image(0);
        build(x, "B-A-");
        strained(x, 0, 1);
        x.guest(0, 1, 1, 9);
        build(x, "A0B0");
        write(x, "B-A-");
        due("behind(0, 0)", x.behind(0, 0), NONE);
        asOfNow(x, 1, 3, 0);
        x.restore(0);
        asOfNow(x, 1, 1, 1);
        x.wipe();
        due("behind(0, 0)", x.behind(0, 0), 0);
        asOfNow(x, 1, 1, 1);
        x.wall(6);
        asOfNow(x, 0, 1, 0);
        x.restore(0);
        asOfNow(x, 1, 1, 1);
    }

    /** STRAIN, the STONES that bulge, and as many of which it is likely that they are weak. */
    private static void asOfNow(GuestStones x, int upper, int lower, int bits) {
        strained(x, upper, lower);
        due("bulges", x.bulges(), bits);
        due("weak", x.weak(10, 1, 0), bits);
    }

    static void strainOfOneThatBearsNothing() {
        of(13, "(one that BEARS 0: 0; of an empty WALL 0)");
        GuestStones x = stones(1, 20, 0, 1, 5, 0, 1, 1, 10);
        strained(x, 0, 1);
        build(x, "A0");
        strained(x, 0, 1);
        build(x, "C1B1");
        strained(x, 1, 2);
        build(x, "B-C-A-");
        strained(x, 0, 1);
        strained(new GuestStones(), 0, 1);
    }

    static void strainRefusesOtherNumbers() {
        of(13, "OUTSIDE.");
        GuestStones x = overhang();
        refusedBeyond("strain", x::strain, 0, 1, LOST - 2);
        GuestStones y = new GuestStones();
        refusedBeyond("strain of an empty WALL", y::strain, 0, 1, LOST - 2);
    }

    // ---- promise 14: bulges

    static void bulgesAreBits() {
        of(14, "BULGES, as bits.");
        due("nothing laid", new GuestStones().bulges(), 0);
        due("A", overhang().bulges(), 1);
        // Each BEARS just what is on it: all but J, the highest; then J, not A.
        GuestStones x = new GuestStones();
        for (int g = 0; g < 10; g++) {
            x.guest(g, 1, 1, 9 - g);
        }
        build(x, "A0B0C0D0E0F0G0H0I0J0");
        due("all but J", x.bulges(), 511);
        GuestStones y = new GuestStones();
        y.guest(9, 1, 1, 1);
        y.guest(0, 1, 1, 1);
        build(y, "J5A5");
        due("J", y.bulges(), 512);
        write(y, "A-");
        due("now, not behind", y.bulges(), 512);
        y.done();
        due("none", y.bulges(), 0);
    }

    static void bulgesByMoreThanThreeQuarters() {
        of(14, "BULGES: STONES whose LOAD is more than three quarters of what they BEAR.");
        int[] bears = {4, 4, 5, 5, 6, 6, 7, 7, 8, 8, 3, 3, 2, 2, 1};
        int[] loads = {3, 4, 3, 4, 4, 5, 5, 6, 6, 7, 2, 3, 1, 2, 1};
        for (int i = 0; i < bears.length; i++) {
            GuestStones x = stones(1, 1, bears[i], 1, loads[i], 0);
            build(x, "A0B0");
            due(loads[i] + " of " + bears[i], x.bulges(), 4 * loads[i] > 3 * bears[i] ? 1 : 0);
        }
        // 150 and 151 of 200.
        GuestStones y = new GuestStones();
        y.guest(0, 1, 1, 200);
        for (int g = 1; g < 9; g++) {
            y.guest(g, 1, g < 8 ? 20 : 10, 200);
        }
        y.guest(9, 1, 1, 200);
        build(y, "A0B0C0D0E0F0G0H0I0");
        due("150 of 200", y.bulges(), 0);
        build(y, "J0");
        due("151 of 200", y.bulges(), 1);
    }

    static void bulgesByFractions() {
        of(14, "more than three quarters");
        // 3 halves of 2 is just three quarters; 5 thirds of 2 is more; 4 thirds is less.
        GuestStones x = walled(9, 1, 1, 2, 1, 1, 9, 2, 3, 0);
        build(x, "A0B1C0");
        due("3 halves of 2", x.bulges(), 0);
        GuestStones y = walled(9, 1, 1, 2, 2, 1, 9, 3, 5, 0);
        build(y, "A0B1C0");
        due("5 thirds of 2", y.bulges(), 1);
        GuestStones z = walled(9, 1, 1, 2, 2, 1, 9, 3, 4, 0);
        build(z, "A0B1C0");
        due("4 thirds of 2", z.bulges(), 0);
        // Just 3 quarters of 1: half of 1 and a half.
        GuestStones w = walled(9, 1, 1, 1, 1, 1, 9, 2, 1, 9, 1, 1, 9, 2, 1, 0, 1, 1, 9);
        build(w, "A0B1C0D2F2E1");
        loaded(w, 0, 3, 4);
        due("3 quarters of 1", w.bulges(), 0);
        due("nothing of 0", stones(1, 1, 0).bulges(), 0);
    }

    // ---- promise 15: touch

    static void touchCounts() {
        of(15, "TOUCH: how many (i = -1), the i-th;");
        GuestStones x = new GuestStones();
        due("nothing laid", x.touch(-1), 0);
        due("the 0th of none", x.touch(0), NONE);
        x = town();
        build(x, "A0");
        due("one alone", x.touch(-1), 0);
        build(x, "B2");
        due("two", x.touch(-1), 1);
        due("the 0th", x.touch(0), 1);
        due("the 1st of one", x.touch(1), NONE);
        GuestStones y = tower(6);
        due("ten, one above another", y.touch(-1), 9);
        for (int i = 0; i < 9; i++) {
            due("touch(" + i + ")", y.touch(i), 11 * i + 1);
        }
        due("touch(9)", y.touch(9), NONE);
    }

    static void touchIsNone() {
        of(15, "NONE (i below -1, too).");
        GuestStones x = overhang();
        due("touch(1)", x.touch(1), 3);
        due("touch(2)", x.touch(2), NONE);
        due("touch(3)", x.touch(3), NONE);
        for (int i : new int[] {-2, -3, -6, -1000, LEAST, LEAST + 1, 45, 100, 1000000, GREATEST - 1, GREATEST}) {
            due("touch(" + i + ")", x.touch(i), NONE);
            due("touch(" + i + ") of none", new GuestStones().touch(i), NONE);
        }
    }

    static void touchIsSideBySide() {
        of(15, "TOUCH: twos of STONES in the WALL that have cells side by side (left and right, or one above the other)");
        // Left and right, with the lesser GUEST's on either side.
        GuestStones x = walled(9, 2, 1, 50, 3, 1, 50, 1, 1, 50);
        build(x, "A0B2");
        due("A left of B", x.touch(0), 1);
        build(x, "A-A5");
        due("A right of B", x.touch(0), 1);
        build(x, "A-A6");
        due("a COLUMN between", x.touch(-1), 0);
        // One above the other, by one cell of them and at either end.
        build(x, "A-A1");
        due("A above B's first cell", x.touch(0), 1);
        build(x, "A-A4");
        due("A above B's last cell", x.touch(0), 1);
        // Two rows apart, and corners.
        build(x, "A-C2A2");
        due("B C, A C; not A B", x.touch(-1), 2);
        due("A C", x.touch(0), 2);
        due("B C", x.touch(1), 12);
        GuestStones y = walled(9, 1, 1, 50, 1, 1, 50, 1, 1, 50);
        build(y, "A0B0C1");
        due("A B, A C; not B C by a corner", y.touch(-1), 2);
        due("A C", y.touch(1), 2);
        GuestStones z = walled(9, 1, 1, 50, 1, 1, 50, 1, 1, 50);
        build(z, "A1B1C0");
        due("not B C by a corner, on the other side", z.touch(-1), 2);
        due("A C", z.touch(1), 2);
    }

    static void touchAtTheEndsOfTheWall() {
        of(15, "(left and right, or one above the other)");
        // The last cell of a row and the first one of the next are no neighbours.
        for (int n = 2; n <= 9; n++) {
            GuestStones x = walled(n, 1, 1, 50, 1, 1, 50, 1, 1, 50);
            build(x, "A" + (n - 1) + "B0C0");
            due("of " + n, x.touch(-1), n == 2 ? 2 : 1);
            due("B C", x.touch(n == 2 ? 1 : 0), 12);
        }
    }

    static void touchIsOfTwosOnce() {
        of(15, "how many; the i-th (10 times the lesser GUEST and the greater; rising).");
        // B with two cells on E, one on A: each two once.
        GuestStones x = town();
        x.guest(4, 2, 1, 50);
        build(x, "A0E2B1");
        due("how many", x.touch(-1), 3);
        due("A B", x.touch(0), 1);
        due("A E", x.touch(1), 4);
        due("B E", x.touch(2), 14);
        due("no more", x.touch(3), NONE);
        // Laid from J on: rising by the lesser GUEST, then the greater.
        GuestStones y = ten(9);
        build(y, "J0I1H0G1A2");
        int[] twos = {8, 67, 68, 79, 89};
        due("how many", y.touch(-1), 5);
        for (int i = 0; i < 5; i++) {
            due("touch(" + i + ")", y.touch(i), twos[i]);
        }
        due("touch(5)", y.touch(5), NONE);
    }

    static void touchIsOfStonesInTheWall() {
        of(15, "twos of STONES in the WALL");
        GuestStones x = town();
        build(x, "A0B2");
        write(x, "A-C5");
        due("behind(2, 1)", x.behind(2, 1), 5);
        due("now, not behind", x.touch(-1), 1);
        due("A B", x.touch(0), 1);
        x.done();
        due("A is out", x.touch(-1), 1);
        due("B C", x.touch(0), 12);
        build(x, "C-B-");
        due("nothing laid", x.touch(-1), 0);
    }

    // ---- promise 16: gaps

    static void gapsInAColumn() {
        of(16, "GAPS in a COLUMN;");
        GuestStones x = overhang();
        int[] gaps = {0, 0, 0, 2, 0, 0};
        for (int c = 0; c < 6; c++) {
            due("gaps(" + c + ")", x.gaps(c), gaps[c]);
        }
    }

    static void gapsInAll() {
        of(16, "in all (-1).");
        due("of an empty WALL", new GuestStones().gaps(-1), 0);
        due("of one COLUMN", overhang().gaps(-1), 2);
        due("of a tower", tower(9).gaps(-1), 0);
        // In the first COLUMN and in the last.
        GuestStones x = walled(4, 1, 1, 50, 1, 1, 50, 2, 1, 50, 2, 1, 50, 1, 1, 50);
        build(x, "A1B2E2C0D2");
        due("gaps(0)", x.gaps(0), 1);
        due("gaps(1)", x.gaps(1), 0);
        due("gaps(2)", x.gaps(2), 0);
        due("gaps(3)", x.gaps(3), 2);
        due("in all", x.gaps(-1), 3);
    }

    static void gapsAreOfNow() {
        of(16, "in all (-1).");
        // Nine COLUMNS with a gap in the last but one, then two, then nine again.
        GuestStones x = walled(9, 1, 1, 50, 2, 1, 50);
        build(x, "A8B7");
        x.image(0);
        x.wall(2);
        due("height(1)", x.height(1), 0);
        due("of two", x.gaps(-1), 0);
        x.restore(0);
        due("of nine", x.gaps(-1), 1);
        due("gaps(7)", x.gaps(7), 1);
        write(x, "B-");
        due("behind(1, 0)", x.behind(1, 0), NONE);
        due("not behind", x.gaps(-1), 1);
    }

    static void gapsAreEmptyUnderSomeCell() {
        of(16, "GAPS: cells that are empty under some cell of their COLUMN: how many in a COLUMN; in all.");
        // Nine of them under the highest cell that there can be, then one less.
        GuestStones x = ten(9);
        x.guest(9, 2, 1, 1);
        build(x, "A0B0C0D0E0F0G0H0I0J0");
        due("nine", x.gaps(1), 9);
        due("in all", x.gaps(-1), 9);
        build(x, "J-I-J0");
        due("eight", x.gaps(1), 8);
        // Empty cells above all are none; those between two STONES are; one is filled below.
        GuestStones y = walled(9, 1, 1, 50, 1, 1, 50, 1, 1, 50, 2, 1, 50);
        build(y, "A1B0C0D0");
        due("one between", y.gaps(1), 1);
        due("a full COLUMN", y.gaps(0), 0);
        due("an empty one", y.gaps(2), 0);
        write(y, "A-");
        due("now, not behind", y.gaps(1), 1);
        y.done();
        due("two", y.gaps(1), 2);
        build(y, "D-");
        due("none under no cell", y.gaps(1), 0);
    }

    static void gapsKnowsTheColumns() {
        of(16, "UNKNOWN.");
        for (int n = 2; n <= 9; n++) {
            GuestStones x = walled(n);
            due("gaps(n - 1)", x.gaps(n - 1), 0);
            due("gaps(-1)", x.gaps(-1), 0);
            refusedBeyond("gaps of " + n, x::gaps, -1, n - 1, UNKNOWN);
        }
    }
}
