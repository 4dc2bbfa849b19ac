/** The document's sentences on where, gates and what falls: part 3 of the terms, promises 17 to 22. */
final class GateSentences extends Sentence {

    // ---- promise 17: where

    static void whereIsTold() {
        of(17, "WHERE; NONE.");
        GuestStones x = walled(2, 1, 1, 5, 2, 1, 5, 3, 1, 5, 1, 6, 5);
        due("in an empty WALL", x.where(0), 0);
        due("just as WIDE as the WALL", x.where(1), 0);
        due("WIDER than the WALL", x.where(2), NONE);
        build(x, "B0");
        due("on B", x.where(0), 0);
        due("too heavy for B", x.where(3), NONE);
    }

    static void whereIsNone() {
        of(17, "NONE.");
        // By each reason: beyond, not standing, too heavy.
        due("beyond", walled(2, 3, 1, 1).where(0), NONE);
        GuestStones x = walled(3, 1, 1, 50, 3, 1, 50);
        build(x, "A1");
        due("it would not stand", x.where(1), NONE);
        GuestStones y = walled(2, 2, 1, 0, 1, 1, 50);
        build(y, "A0");
        due("too heavy", y.where(1), NONE);
        build(y, "A-");
        due("as it was", y.where(1), 0);
    }

    static void whereStrainsLeast() {
        of(17, "WHERE: the COLUMN at which a GUEST's STONE, not in the WALL, can be put so that STRAIN is least then");
        // On A 4 of 8, on B 4 of 9, on C 4 of 10: the last.
        GuestStones x = walled(3, 1, 1, 8, 1, 1, 9, 1, 1, 10, 1, 4, 1);
        build(x, "A0B1C2");
        due("C", x.where(3), 2);
        build(x, "C-B-C1B2");
        due("C in the middle", x.where(3), 1);
        build(x, "C-A-C0A1");
        due("C as the first", x.where(3), 0);
        // STRAIN of all the WALL, not of the STONE that it is put on.
        GuestStones y = walled(3, 1, 1, 10, 1, 1, 4, 1, 1, 9, 1, 3, 9, 1, 1, 9);
        build(y, "A0B1C2D1");
        due("3 of 4 is there: the first", y.where(4), 0);
        // Half of it on each of two.
        GuestStones z = walled(3, 1, 1, 6, 1, 1, 6, 1, 1, 7, 2, 4, 9);
        build(z, "A0B1C2");
        due("2 of 6, or 2 of 6 and 2 of 7", z.where(3), 0);
        build(z, "A-");
        due("at 0 all on B, at 1 half on B and half on C", z.where(3), 1);
    }

    static void whereByFractions() {
        of(17, "so that STRAIN is least then");
        // D on B with one cell strains it by 13 thirds of 5, all on C strains that by 13 of 15: as much.
        GuestStones x = walled(7, 2, 1, 50, 1, 1, 5, 3, 1, 15, 3, 13, 9, 1, 1, 1);
        build(x, "A0B2C3E6");
        due("13 of 15 either way: the first", x.where(3), 0);
        x.wall(7);
        giving(x, 2, 1, 50, 1, 1, 5, 3, 1, 16, 3, 13, 9, 1, 1, 1);
        build(x, "A0B2C3E6");
        due("13 of 16 is less", x.where(3), 3);
    }

    static void whereIsTheFirstOfSeveral() {
        of(17, "(of several the first)");
        GuestStones x = walled(9, 1, 1, 9, 1, 1, 9);
        due("all are the same", x.where(0), 0);
        build(x, "A0");
        due("all but the first", x.where(1), 1);
        // 1 of 2 on A, 2 of 4 on B by more of it: the same.
        GuestStones y = walled(2, 1, 1, 4, 1, 1, 4, 1, 2, 9);
        build(y, "A0B1");
        due("2 of 4 either way", y.where(2), 0);
        GuestStones z = walled(2, 1, 1, 4, 1, 1, 8, 1, 2, 9, 1, 2, 9);
        build(z, "B0A1C0");
        due("4 of 8 on B, 2 of 4 on A", z.where(3), 0);
    }

    static void whereIsOfNow() {
        of(17, "can be put so that STRAIN is least then (of several the first); NONE.");
        GuestStones x = walled(2, 1, 1, 9, 1, 1, 9);
        write(x, "A0");
        due("not behind the PAD", x.where(1), 0);
        due("A's too", x.where(0), 0);
        due("nothing is put", x.told(3), 0);
        due("the PAD stays", x.told(0), 2);
        x.done();
        due("behind it", x.where(1), 1);
    }

    static void whereKnowsTheGuests() {
        of(17, "UNKNOWN;");
        GuestStones x = ten(6);
        due("where(0)", x.where(0), 0);
        due("where(9)", x.where(9), 0);
        refusedBeyond("where", x::where, 0, 9, UNKNOWN);
    }

    static void whereRefusesThoseWhoCanNotPut() {
        of(17, "STATE: he has no STONE, or it is in the WALL.");
        GuestStones x = new GuestStones();
        for (int g = 0; g < 10; g++) {
            due("no STONE", x.where(g), STATE);
            x.guest(g, 1, 1, 50);
            due("a STONE", x.where(g), 0);
        }
        build(x, "A0J1");
        due("A's in the WALL", x.where(0), STATE);
        due("J's in the WALL", x.where(9), STATE);
        due("B's not", x.where(1), 2);
        write(x, "A-");
        due("on the PAD alone", x.where(0), STATE);
        x.done();
        due("taken out", x.where(0), 0);
        GuestStones all = tower(6);
        for (int g = 0; g < 10; g++) {
            due("all are laid", all.where(g), STATE);
        }
    }

    // ---- promise 18: gate

    static void gateIsBits() {
        of(18, "GATE, as bits.");
        due("no STONES", new GuestStones().gate(0, 0, 1), 0);
        due("all ten", ten(6).gate(0, 0, 1), 1023);
        GuestStones x = ten(2);
        build(x, "B0C0D0E0F0G0H0I0J0");
        due("A alone", x.gate(1, 0, 1), 1);
        build(x, "J-");
        due("A and J", x.gate(1, 0, 1), 513);
        due("all laid", tower(6).gate(0, 0, 1), 0);
    }

    static void gateIsByWideAndRow() {
        of(18, "GATE: GUESTS whose STONES (not in the WALL) are as WIDE as told and can be put at a COLUMN, lying in a told row.");
        GuestStones x = walled(6, 1, 1, 50, 1, 1, 50, 2, 1, 50, 2, 1, 50, 3, 1, 50, 3, 1, 50);
        due("1 WIDE", x.gate(0, 0, 1), 3);
        due("2 WIDE", x.gate(0, 0, 2), 12);
        due("3 WIDE", x.gate(0, 0, 3), 48);
        build(x, "C1");
        due("1 WIDE beside C", x.gate(0, 0, 1), 3);
        due("2 WIDE above C", x.gate(0, 1, 2), 8);
        due("2 WIDE beside C", x.gate(0, 0, 2), 0);
        due("2 WIDE two rows above", x.gate(0, 2, 2), 0);
        due("3 WIDE above C", x.gate(0, 1, 3), 48);
        due("3 WIDE from C's last cell on", x.gate(2, 1, 3), 0);
        due("1 WIDE on C", x.gate(2, 1, 1), 3);
        due("1 WIDE under the top of C", x.gate(2, 0, 1), 0);
    }

    static void gateIsOfThoseWhoCanPut() {
        of(18, "can be put at a COLUMN");
        // 1: those who have none or are in the WALL; 2: beyond; 3: not standing; 4: too heavy.
        GuestStones x = walled(4, 1, 1, 0, 1, 3, 5, 1, 6, 5, 3, 1, 5, 2, 1, 5);
        due("beyond", x.gate(2, 0, 3), 0);
        due("not beyond", x.gate(1, 0, 3), 8);
        build(x, "A3");
        due("too heavy on A", x.gate(3, 1, 1), 0);
        due("not standing on A", x.gate(1, 1, 3), 0);
        due("too heavy on A, 2 WIDE", x.gate(2, 1, 2), 0);
        build(x, "B0");
        due("6 on 5", x.gate(0, 1, 1), 0);
        due("in the WALL", x.gate(1, 0, 1), 4);
        x.guest(2, 1, 5, 5);
        due("5 on 5", x.gate(0, 1, 1), 4);
    }

    static void gateIsOfNow() {
        of(18, "GUESTS whose STONES (not in the WALL)");
        GuestStones x = ten(2);
        write(x, "A0B0");
        due("not behind the PAD", x.gate(0, 0, 1), 1023);
        due("nothing is put", x.told(3), 0);
        x.done();
        due("not in row 0 now", x.gate(0, 0, 1), 0);
        due("those who are not in the WALL", x.gate(0, 2, 1), 1020);
    }

    static void gateKnowsTheColumns() {
        of(18, "UNKNOWN: the COLUMN;");
        for (int n = 2; n <= 9; n++) {
            GuestStones x = walled(n, 1, 1, 1);
            due("gate(0)", x.gate(0, 0, 1), 1);
            due("gate(n - 1)", x.gate(n - 1, 0, 1), 1);
            refusedBeyond("gate of " + n, c -> x.gate(c, 0, 1), 0, n - 1, UNKNOWN);
        }
    }

    static void gateRow() {
        of(18, "OUTSIDE: the row 0 to 9");
        GuestStones x = ten(2);
        build(x, "A0B0C0D0E0F0G0H0I0");
        due("row 9", x.gate(0, 9, 1), 512);
        due("row 8", x.gate(0, 8, 1), 0);
        due("row 0", x.gate(1, 0, 1), 512);
        due("row 9 of an empty COLUMN", x.gate(1, 9, 1), 0);
        refusedBeyond("row", row -> x.gate(0, row, 1), 0, 9, OUTSIDE);
    }

    static void gateWide() {
        of(18, "WIDE.");
        GuestStones x = walled(3, 1, 1, 1, 2, 1, 1, 3, 1, 1);
        due("1 WIDE", x.gate(0, 0, 1), 1);
        due("2 WIDE", x.gate(0, 0, 2), 2);
        due("3 WIDE", x.gate(0, 0, 3), 4);
        refusedBeyond("WIDE", wide -> x.gate(0, 0, wide), 1, 3, OUTSIDE);
        due("row and WIDE", x.gate(0, 10, 0), OUTSIDE);
    }

    // ---- promise 19: orders

    static void ordersCounts() {
        of(19, "ORDERS: how many (place = -1), the GUEST at a place of the first; NONE.");
        GuestStones x = town();
        write(x, "B0A1");
        due("both: A beside B's row, B on A", x.orders(-1), 2);
        due("the 0th", x.orders(0), 0);
        due("the 1st", x.orders(1), 1);
        due("there is no 2nd", x.orders(2), NONE);
    }

    static void ordersOfNoActs() {
        of(19, "(of no ACTS: 1)");
        GuestStones x = new GuestStones();
        due("how many", x.orders(-1), 1);
        for (int place : new int[] {0, 1, 5, 6, -2, LEAST, GREATEST}) {
            due("orders(" + place + ")", x.orders(place), NONE);
        }
        x = tower(6);
        due("how many, all laid", x.orders(-1), 1);
        due("the 0th", x.orders(0), NONE);
    }

    static void ordersOfOneToSix() {
        of(19, "(all ACTS put, 6 at most, of GUESTS who differ)");
        GuestStones x = ten(9);
        String text = "";
        int orders = 1;
        for (int many = 1; many <= 6; many++) {
            text = (char) ('J' - many + 1) + "" + many + text;
            orders *= many;
            write(x, text);
            due("of " + text, x.orders(-1), orders);
            for (int place = 0; place < many; place++) {
                due("orders(" + place + ") of " + text, x.orders(place), 10 - many + place);
            }
            due("behind the last", x.orders(many), NONE);
        }
    }

    static void ordersInWhichAllCanBe() {
        of(19, "in how many orders all of them can be");
        GuestStones x = town();
        write(x, "D0A0");
        due("D BEARS nothing: A first", x.orders(-1), 1);
        due("A", x.orders(0), 0);
        due("D", x.orders(1), 3);
        write(x, "C1B0");
        due("B does not stand on C: B first", x.orders(-1), 1);
        due("B", x.orders(0), 1);
        write(x, "C0D0");
        due("neither on the other", x.orders(-1), 0);
        due("no first", x.orders(0), NONE);
        due("no second", x.orders(1), NONE);
        write(x, "A5");
        due("beyond", x.orders(-1), 0);
        write(x, "E0");
        due("no STONE", x.orders(-1), 0);
        write(x, "A0E2");
        due("one of them has no STONE", x.orders(-1), 0);
        // A STONE that holds another must come first; with one that is apart: three orders.
        GuestStones y = walled(4, 1, 1, 50, 1, 1, 0, 1, 1, 0);
        write(y, "B0C1A0");
        due("A before B", y.orders(-1), 3);
        due("A", y.orders(0), 0);
        due("B", y.orders(1), 1);
        due("C", y.orders(2), 2);
    }

    static void ordersFirstIsByGuests() {
        of(19, "the GUEST at a place of the first (by GUESTS); NONE.");
        // C and D must be below B, and A on it, that BEARS no more: C D B A, and D C B A.
        GuestStones x = walled(4, 1, 1, 0, 2, 1, 1, 1, 1, 9, 1, 1, 9);
        write(x, "A0B0C0D1");
        due("how many", x.orders(-1), 2);
        due("0", x.orders(0), 2);
        due("1", x.orders(1), 3);
        due("2", x.orders(2), 1);
        due("3", x.orders(3), 0);
        // Not as they are told, but by GUESTS.
        GuestStones y = ten(6);
        write(y, "J0A1E2");
        due("0", y.orders(0), 0);
        due("1", y.orders(1), 4);
        due("2", y.orders(2), 9);
    }

    static void ordersOfNow() {
        of(19, "ORDERS of the YEARS on the PAD");
        GuestStones x = ten(6);
        build(x, "A0B1");
        write(x, "A0");
        due("A is in the WALL", x.orders(-1), 0);
        due("no first", x.orders(0), NONE);
        write(x, "C0D1");
        due("C and D", x.orders(-1), 2);
        due("nothing is put", x.told(3), 3);
        due("the PAD stays", x.told(0), 4);
        due("judge(0)", x.judge(0), NONE);
    }

    static void ordersOfPlacesThatThereAreNot() {
        of(19, "NONE.");
        GuestStones x = town();
        write(x, "B0A1C4");
        due("orders(2)", x.orders(2), 2);
        for (int place : new int[] {3, 4, 5, 6, 7, 60, 1000000, GREATEST - 1, GREATEST, -2, -3, -6, -1000000, LEAST, LEAST + 1}) {
            due("orders(" + place + ")", x.orders(place), NONE);
        }
    }

    static void ordersRefusesAFault() {
        of(19, "NO: there is a FAULT");
        GuestStones x = town();
        for (String text : new String[] {"A", "A0B", "A6", "K0", "A0-", times(60, "A")}) {
            write(x, text);
            due("how many of " + text, x.orders(-1), NO);
            due("the 0th of " + text, x.orders(0), NO);
            due("far of " + text, x.orders(GREATEST), NO);
        }
    }

    static void ordersRefusesTakingOut() {
        of(19, "an ACT that is no put");
        GuestStones x = town();
        build(x, "A0");
        for (String text : new String[] {"A-", "B2A-", "A-B2", "B-", "J-"}) {
            write(x, text);
            due("how many of " + text, x.orders(-1), NO);
            due("the 0th of " + text, x.orders(0), NO);
        }
    }

    static void ordersRefusesAGuestTwice() {
        of(19, "or a GUEST twice;");
        GuestStones x = town();
        for (String text : new String[] {"A0A0", "A0A2", "A0B2A4", "J0J0", "B0A1B3", times(30, "A0")}) {
            write(x, text);
            due("how many of " + text, x.orders(-1), NO);
            due("the 0th of " + text, x.orders(0), NO);
        }
    }

    static void ordersRefusesMoreThanSix() {
        of(19, "FULL: more than 6.");
        GuestStones x = ten(9);
        write(x, "A0B1C2D3E4F5");
        due("six", x.orders(-1), 720);
        String text = "A0B1C2D3E4F5";
        for (String more : new String[] {"G6", "H7", "I8", "J0"}) {
            text += more;
            write(x, text);
            due("how many of " + text, x.orders(-1), FULL);
            due("the 0th of " + text, x.orders(0), FULL);
            due("far of " + text, x.orders(LEAST), FULL);
        }
    }

    // ---- promise 20: high

    static void highTells() {
        of(20, "HIGH: how high (what = 0), the fewest (1).");
        GuestStones x = town();
        build(x, "B0");
        // D, that BEARS nothing, on A, on B.
        due("how high", x.high(0), 3);
        due("the fewest", x.high(1), 2);
    }

    static void highIfNoneDoes() {
        of(20, "how high (as it is now, if none does)");
        due("no STONES: high(0)", new GuestStones().high(0), 0);
        due("no STONES: high(1)", new GuestStones().high(1), 0);
        GuestStones x = tower(6);
        due("all laid: high(0)", x.high(0), 10);
        due("all laid: high(1)", x.high(1), 0);
        // None of three makes it higher: what lies there BEARS nothing, in the other COLUMN neither.
        GuestStones y = walled(2, 1, 1, 50, 1, 1, 0, 1, 1, 0, 1, 1, 0, 1, 1, 0);
        build(y, "A0B0");
        due("high(0)", y.high(0), 2);
        due("high(1)", y.high(1), 0);
        GuestStones z = walled(2, 2, 1, 0, 1, 1, 9);
        build(z, "A0");
        due("nothing on A", z.high(0), 1);
        due("by none", z.high(1), 0);
    }

    static void highIsTheGreatestHeight() {
        of(20, "HIGH: the greatest HEIGHT that there can be");
        // In any COLUMN: the first, the last.
        for (int n = 2; n <= 9; n++) {
            GuestStones x = walled(n, 1, 1, 50, 2, 1, 0, 1, 1, 0);
            build(x, "A" + (n - 1));
            due("on A, by B or C", x.high(0), 2);
            due("by one", x.high(1), 1);
        }
        // Ten high by three, nine by two that there are.
        GuestStones y = ten(9);
        build(y, "A0B0C0D0E0F0G0");
        due("ten", y.high(0), 10);
        due("by three", y.high(1), 3);
        build(y, "H1I1J1");
        due("seven: none is left", y.high(0), 7);
        due("by none", y.high(1), 0);
    }

    static void highInAnyOrderAnywhere() {
        of(20, "if any of the GUESTS whose STONES are not in the WALL (3 at most) put theirs, in any order, anywhere: how high");
        // Each order of three is the one that is needed.
        int[][] orders = {{0, 1, 2}, {0, 2, 1}, {1, 0, 2}, {1, 2, 0}, {2, 0, 1}, {2, 1, 0}};
        for (int[] order : orders) {
            GuestStones x = walled(2);
            for (int place = 0; place < 3; place++) {
                x.guest(order[place], 1, 1, 2 - place);
            }
            due("three", x.high(0), 3);
            due("by three", x.high(1), 3);
        }
        // A wide one in between, that hangs over: two 1 WIDE ones in two COLUMNS.
        GuestStones y = walled(3, 3, 1, 9, 1, 1, 9, 1, 1, 9);
        due("three", y.high(0), 3);
        build(y, "B1");
        due("A does not stand on B: C on B, or C, B beside A", y.high(0), 2);
        due("by one", y.high(1), 1);
    }

    static void highNeedsAPillarBeside() {
        of(20, "if any of the GUESTS whose STONES are not in the WALL (3 at most) put theirs, in any order, anywhere");
        // C does not stand on A alone, and B is too heavy for A: B beside A, then C on both.
        GuestStones x = walled(3, 1, 1, 1, 1, 9, 9, 3, 2, 9);
        build(x, "A0");
        due("two", x.high(0), 2);
        due("by two", x.high(1), 2);
        // A heavier C is too much for A.
        x.guest(2, 3, 3, 9);
        due("one", x.high(0), 1);
        due("by none", x.high(1), 0);
    }

    static void highByTheFewest() {
        of(20, "the fewest of them by whom it can be so.");
        // One that is high enough, though two others come first.
        GuestStones x = walled(2, 1, 1, 1, 1, 1, 0, 1, 20, 0, 1, 1, 0);
        build(x, "A0");
        due("two", x.high(0), 2);
        due("by one", x.high(1), 1);
        // B alone on nothing is as high as A on the ground: one.
        GuestStones y = walled(2, 1, 1, 0, 1, 1, 0, 1, 1, 0);
        due("one", y.high(0), 1);
        due("by one", y.high(1), 1);
        // Two that are needed; the third is heavy.
        GuestStones z = walled(2, 1, 20, 0, 1, 1, 5, 1, 1, 5);
        due("two", z.high(0), 2);
        due("by two", z.high(1), 2);
    }

    static void highIsOfNow() {
        of(20, "how high (as it is now, if none does)");
        GuestStones x = ten(2);
        build(x, "A0B0C0D0E0F0G0");
        write(x, "H0I0");
        due("not behind the PAD", x.high(1), 3);
        due("nothing is put", x.told(3), 127);
        due("the PAD stays", x.told(0), 4);
        heights(x, 9, 0);
    }

    static void highRefusesOtherNumbers() {
        of(20, "OUTSIDE;");
        GuestStones x = new GuestStones();
        refusedBeyond("high", x::high, 0, 1, OUTSIDE);
        GuestStones y = ten(6);
        refusedBeyond("high of ten", y::high, 0, 1, OUTSIDE);
    }

    static void highRefusesMoreThanThree() {
        of(20, "FULL: more than 3 STONES are not in the WALL.");
        GuestStones x = new GuestStones();
        for (int g = 0; g < 3; g++) {
            x.guest(g, 1, 1, 50);
            due("high(0) of " + (g + 1), x.high(0), g + 1);
            due("high(1) of " + (g + 1), x.high(1), g + 1);
        }
        x.guest(9, 1, 1, 50);
        due("high(0) of four", x.high(0), FULL);
        due("high(1) of four", x.high(1), FULL);
        write(x, "J0");
        due("on the PAD alone", x.high(0), FULL);
        x.done();
        due("three and one in the WALL", x.high(0), 4);
        due("by three", x.high(1), 3);
        GuestStones y = ten(6);
        due("of ten", y.high(0), FULL);
        build(y, "A0B0C0D0E0F0");
        due("four of ten", y.high(1), FULL);
        build(y, "G0");
        due("three of ten", y.high(1), 3);
    }

    // ---- promise 21: falls

    static void fallsAreBits() {
        of(21, "FALLS, as bits.");
        GuestStones x = overhang();
        due("B gone: A, D", x.falls(2), 9);
        due("C gone: none", x.falls(4), 0);
        due("nothing laid", new GuestStones().falls(1023), 0);
        GuestStones y = ten(6);
        build(y, "J0I0H0G0F0E0D0C0B0A0");
        due("the lowest of ten gone: nine", y.falls(512), 511);
        build(y, "A-B-C-D-E-F-G-H-I-J-A0B0C0D0E0F0G0H0I0J0");
        due("the lowest of ten gone: nine", y.falls(1), 1022);
    }

    static void fallsOfASet() {
        of(21, "FALLS: the STONES of a set are gone (those of them that are in the WALL), whatever is on them;");
        GuestStones x = overhang();
        due("the empty set", x.falls(0), 0);
        due("those who are not in the WALL", x.falls(1008), 0);
        due("B and one who is not", x.falls(2 + 512), 9);
        x.guest(4, 1, 1, 1);
        due("B and one who has a STONE", x.falls(2 + 16), 9);
        due("all", x.falls(1023), 0);
        due("nothing is gone in fact", x.told(3), 15);
        write(x, "D-");
        due("now, not behind", x.falls(2), 9);
        x.done();
        due("without D", x.falls(2), 1);
    }

    static void fallsLeavesTheSetOut() {
        of(21, "which fall, those of the set left out.");
        GuestStones x = overhang();
        due("B: A, D", x.falls(2), 9);
        due("B and A: D", x.falls(3), 8);
        due("B and D: A", x.falls(10), 1);
        due("B, A and D", x.falls(11), 0);
        due("A: D", x.falls(1), 8);
        due("D", x.falls(8), 0);
    }

    static void fallsWhatDoesNotStand() {
        of(21, "each STONE that does not STAND");
        // Of two cells one is enough, of three two; what is beside goes.
        GuestStones x = walled(9, 1, 1, 50, 1, 1, 50, 2, 1, 50);
        build(x, "A0B1C0");
        due("A: C stands on B", x.falls(1), 0);
        due("B: C stands on A", x.falls(2), 0);
        due("A and B: C", x.falls(3), 4);
        GuestStones y = walled(9, 1, 1, 50, 1, 1, 50, 1, 1, 50, 3, 1, 50);
        build(y, "A0B1C2D0");
        due("A: D stands on two", y.falls(1), 0);
        due("B: D stands on two", y.falls(2), 0);
        due("C: D stands on two", y.falls(4), 0);
        due("A and B: D", y.falls(3), 8);
        due("A and C: D", y.falls(5), 8);
        due("B and C: D", y.falls(6), 8);
        // In row 0 all stands.
        build(y, "D-D3");
        due("all but D", y.falls(7), 0);
    }

    static void fallsWhatBearsTooMuch() {
        of(21, "or whose LOAD is more than it BEARS, falls, too, and is gone");
        // 10 on A and B; one gone: 10 on the other, that BEARS 10, or 9.
        GuestStones x = walled(9, 1, 1, 10, 1, 1, 9, 2, 10, 50);
        build(x, "A0B1C0");
        due("B: A BEARS 10", x.falls(2), 0);
        due("A: B is crushed, then C", x.falls(1), 6);
        // By fractions: 10 halves instead of 10 thirds, on 5 and on 4.
        GuestStones y = walled(9, 1, 1, 5, 1, 1, 4, 1, 1, 10, 3, 10, 50);
        build(y, "A0B1C2D0");
        due("B: A BEARS 5", y.falls(2), 0);
        due("A: B is crushed, then D falls", y.falls(1), 10);
        due("C: B is crushed, then D falls and A is crushed by it", y.falls(4), 11);
    }

    static void fallsOverAndOver() {
        of(21, "then, over and over, all at once by what there is then");
        // Nine rounds: each holds the next.
        due("nine rounds", tower(2).falls(1), 1022);
        due("eight rounds", tower(2).falls(2), 1020);
        due("one round", tower(2).falls(256), 512);
        due("none", tower(2).falls(512), 0);
        due("all ten gone", tower(2).falls(1023), 0);
        due("the empty set", tower(2).falls(0), 0);
    }

    static void fallsAllAtOnce() {
        of(21, "all at once by what there is then, each STONE that does not STAND, or whose LOAD is more than it BEARS, falls, too, and is gone");
        // C gone, B does not stand and A bears all that was B's: both fall at once, and E then.
        GuestStones x = town();
        x.guest(4, 1, 7, 99);
        build(x, "A0C2B0E1");
        due("C: A, B, E", x.falls(4), 19);
        due("A: B, C, E", x.falls(1), 22);
        due("E", x.falls(16), 0);
        // What falls weighs still in its round: B falls and crushes A, on which it hangs by one cell.
        GuestStones y = walled(9, 1, 1, 2, 3, 3, 50, 1, 1, 50, 1, 1, 50);
        build(y, "A0C1D2B0");
        due("C and D: B falls, A is crushed at once", y.falls(12), 3);
        // What fell weighs no more: D BEARS 5, first G's 2 and half of H's 4, then all of H's 4.
        GuestStones z = walled(9, 1, 1, 50, 1, 1, 50, 2, 1, 50, 2, 1, 5, 1, 1, 50, 1, 1, 50, 3, 2, 50, 2, 4, 50);
        build(z, "A0B0C1D1E3F3G2H0");
        due("A and F: B and G, not D", z.falls(33), 66);
    }

    static void fallsByWhatThereIsThen() {
        of(21, "by what there is then");
        // A gone, B falls first; as long as it is there it holds half of D's 4, and E BEARS 2.
        GuestStones x = walled(9, 1, 1, 50, 1, 1, 50, 1, 1, 50, 2, 4, 50, 1, 1, 2);
        build(x, "A0B0C1E1D0");
        loaded(x, 4, 2, 1);
        due("A: B, then E by 4 of 2, then D", x.falls(1), 26);
        GuestStones y = walled(9, 1, 1, 50, 1, 1, 50, 1, 1, 50, 2, 4, 50, 1, 1, 4);
        build(y, "A0B0C1E1D0");
        due("A: B, then D stays on E", y.falls(1), 2);
    }

    static void fallsWithoutMoving() {
        of(21, "(none moves)");
        // D hangs over what is gone; C, in the COLUMN below it, does not catch it.
        GuestStones x = walled(9, 1, 1, 50, 1, 1, 50, 1, 1, 50);
        build(x, "A0B0C0");
        due("B: C falls though A is below", x.falls(2), 4);
        due("A: B and C", x.falls(1), 6);
        lies(x, 2, 2, 0);
        heights(x, 3, 0);
    }

    static void fallsHandsNothingOnWithoutAHeldCell() {
        of(21, "go down in equal shares by its HELD cells");
        // B gone: C has no HELD cell: E's and its own WEIGHT are on nothing; A BEARS just D.
        GuestStones x = walled(9, 1, 1, 1, 1, 1, 50, 1, 20, 50, 1, 1, 50, 1, 20, 50);
        build(x, "A1B0C0E0D1");
        due("B: C and E", x.falls(2), 20);
        due("A: D", x.falls(1), 8);
    }

    static void fallsTakesSets() {
        of(21, "OUTSIDE: the set 0 to 1023.");
        GuestStones x = overhang();
        due("0", x.falls(0), 0);
        due("1023", x.falls(1023), 0);
        due("1022: all but A", x.falls(1022), 1);
        due("511: all but J, who has none", x.falls(511), 0);
        refusedBeyond("falls", x::falls, 0, 1023, OUTSIDE);
        due("1024 and B", x.falls(1026), OUTSIDE);
    }

    // ---- promise 22: key

    static void keyTells() {
        of(22, "KEYSTONE: who (what = 0), how many (1); NONE.");
        GuestStones x = overhang();
        due("who", x.key(0), 1);
        due("how many", x.key(1), 2);
    }

    static void keyIsNoneOfAnEmptyWall() {
        of(22, "NONE: the WALL is empty.");
        GuestStones x = new GuestStones();
        due("who", x.key(0), NONE);
        due("how many", x.key(1), NONE);
        x.guest(0, 1, 1, 1);
        due("a STONE that is not in the WALL", x.key(0), NONE);
        write(x, "A0");
        due("on the PAD alone", x.key(1), NONE);
        x.done();
        due("who", x.key(0), 0);
        due("how many: it lets none fall", x.key(1), 0);
        build(x, "A-");
        due("who", x.key(0), NONE);
        due("how many", x.key(1), NONE);
    }

    static void keyLetsMostFall() {
        of(22, "KEYSTONE: the GUEST whose STONE, gone alone, lets most fall (of several the least): who; how many; NONE: the WALL is empty.");
        GuestStones x = ten(6);
        build(x, "J0I0H0G0F0E0D0C0B0A0");
        due("who", x.key(0), 9);
        due("how many", x.key(1), 9);
        build(x, "A-B-C-D-E-F-A1B1C1D1E1");
        due("A and four on it, J and three on it", x.key(0), 0);
        due("how many", x.key(1), 4);
        // Alone: two that hold one between them let none fall.
        GuestStones y = walled(9, 1, 1, 50, 1, 1, 50, 2, 1, 50);
        build(y, "A0B1C0");
        due("who", y.key(0), 0);
        due("how many", y.key(1), 0);
        // How many, not how high a set: 2 of the least against 1 of the greatest.
        GuestStones z = ten(6);
        build(z, "E0A0B0F1J1");
        due("who", z.key(0), 4);
        due("how many", z.key(1), 2);
    }

    static void keyIsTheLeastOfSeveral() {
        of(22, "(of several the least)");
        GuestStones x = ten(6);
        build(x, "J0I0D1C1");
        due("D and J let one fall", x.key(0), 3);
        due("how many", x.key(1), 1);
        build(x, "I-C-");
        due("none falls", x.key(0), 3);
        due("how many", x.key(1), 0);
        due("nothing is gone", x.told(3), 520);
    }

    static void keyRefusesOtherNumbers() {
        of(22, "OUTSIDE.");
        GuestStones x = overhang();
        refusedBeyond("key", x::key, 0, 1, OUTSIDE);
        GuestStones y = new GuestStones();
        refusedBeyond("key of an empty WALL", y::key, 0, 1, OUTSIDE);
    }
}
