import java.util.ArrayList;
import java.util.List;
import java.util.function.Supplier;
import java.util.function.ToLongFunction;

/** The head of the document's terms, and the constants: what refused calls answer, and that they change nothing. */
final class RefusalSentences extends Sentence {

    // ---- the constants

    static void constants() {
        of(1, "public static final int NONE = -6, UNKNOWN = -1, OUTSIDE = -2, STATE = -3, FULL = -4, NO = -5;");
        due("NONE", GuestStones.NONE, -6);
        due("UNKNOWN", GuestStones.UNKNOWN, -1);
        due("OUTSIDE", GuestStones.OUTSIDE, -2);
        due("STATE", GuestStones.STATE, -3);
        due("FULL", GuestStones.FULL, -4);
        due("NO", GuestStones.NO, -5);
    }

    static void constantLost() {
        of(1, "public static final long LOST = -1000000000000000000L;");
        due("LOST", GuestStones.LOST, -1000000000000000000L);
    }

    // ---- the first of the refusals that fit

    static void allRefusals() {
        of(1, "Calls that are refused answer, the first of these that fits: UNKNOWN -1 (there is no such GUEST, COLUMN), OUTSIDE -2 (another number is not as told), NO -5 (as told), STATE -3 (as told), FULL -4.");
        GuestStones x = overhang();
        due("UNKNOWN, a GUEST", x.state(10, 0), -1);
        due("UNKNOWN, a COLUMN", x.gaps(6), -1);
        due("OUTSIDE", x.key(2), -2);
        due("STATE", x.guest(0, 1, 1, 1), -3);
        write(x, times(60, "A"));
        due("FULL", x.say('A'), -4);
        due("NO", x.done(), -5);
    }

    static void guestUnknownFirst() {
        of(3, "the first of these that fits: UNKNOWN -1 (there is no such GUEST, COLUMN)");
        GuestStones x = overhang();
        for (int g : new int[] {-1, 10, LEAST, GREATEST}) {
            due("and WIDE", x.guest(g, 0, 1, 1), UNKNOWN);
            due("and WEIGHT", x.guest(g, 1, 21, 1), UNKNOWN);
            due("and BEARS", x.guest(g, 1, 1, -1), UNKNOWN);
            due("and all", x.guest(g, LEAST, GREATEST, LEAST), UNKNOWN);
        }
    }

    static void guestOutsideBeforeState() {
        of(3, "OUTSIDE; STATE: it is in the WALL.");
        GuestStones x = overhang();
        due("WIDE", x.guest(0, 0, 1, 1), OUTSIDE);
        due("WIDE", x.guest(0, 4, 1, 1), OUTSIDE);
        due("WEIGHT", x.guest(1, 1, 0, 1), OUTSIDE);
        due("WEIGHT", x.guest(1, 1, 21, 1), OUTSIDE);
        due("BEARS", x.guest(3, 1, 1, -1), OUTSIDE);
        due("BEARS", x.guest(3, 1, 1, 201), OUTSIDE);
        due("none of them", x.guest(3, 1, 1, 200), STATE);
    }

    static void sayOutsideBeforeFull() {
        of(4, "OUTSIDE; FULL.");
        GuestStones x = new GuestStones();
        write(x, times(60, "A"));
        for (int sign : new int[] {32, 127, 0, -1, 256, LEAST, GREATEST}) {
            due("say(" + sign + ") on a full PAD", x.say(sign), OUTSIDE);
        }
        due("say(33) on a full PAD", x.say(33), FULL);
        due("say(126) on a full PAD", x.say(126), FULL);
    }

    static void judgeOutsideBeforeNo() {
        of(7, "OUTSIDE; NO: there is a FAULT.");
        GuestStones x = new GuestStones();
        write(x, "A");
        refusedBeyond("judge with a FAULT", x::judge, 0, 1, OUTSIDE);
        due("judge(0)", x.judge(0), NO);
        due("judge(1)", x.judge(1), NO);
    }

    static void stateUnknownFirst() {
        of(9, "UNKNOWN; OUTSIDE.");
        GuestStones x = overhang();
        for (int n : new int[] {-1, 10, LEAST, GREATEST}) {
            due("guest and what " + n, x.state(n, n), UNKNOWN);
            due("guest " + n, x.state(n, 2), UNKNOWN);
        }
    }

    static void behindInOrder() {
        of(10, "UNKNOWN; OUTSIDE; NO, as of done().");
        GuestStones x = overhang();
        for (String text : new String[] {"A", "E0"}) {
            write(x, text);
            for (int n : new int[] {-1, 10, LEAST, GREATEST}) {
                due("guest, what and NO", x.behind(n, n), UNKNOWN);
                due("guest and NO", x.behind(n, 0), UNKNOWN);
                due("what and NO", x.behind(0, n), OUTSIDE);
                due("what and NO, without a STONE", x.behind(9, n), OUTSIDE);
            }
            due("NO", x.behind(9, 1), NO);
        }
        x.wipe();
        due("guest and what", x.behind(10, 2), UNKNOWN);
    }

    static void heightUnknownBeforeNo() {
        of(11, "UNKNOWN; NO, likewise.");
        GuestStones x = overhang();
        for (String text : new String[] {"A", "E0"}) {
            write(x, text);
            refusedBeyond("height, and NO", x::height, 0, 5, UNKNOWN);
            due("NO", x.height(5), NO);
        }
    }

    static void loadInOrder() {
        of(12, "UNKNOWN; OUTSIDE; STATE: it is not in the WALL.");
        GuestStones x = overhang();
        for (int n : new int[] {-1, 10, LEAST, GREATEST}) {
            due("guest and part", x.load(n, n), LOST - 1);
            due("part and STATE", x.load(9, n), LOST - 2);
        }
        due("STATE", x.load(9, 1), LOST - 3);
    }

    static void whereUnknownBeforeState() {
        of(17, "UNKNOWN; STATE: he has no STONE, or it is in the WALL.");
        GuestStones x = overhang();
        due("guest 10 has no STONE", x.where(10), UNKNOWN);
        due("guest -1 has no STONE", x.where(-1), UNKNOWN);
        due("guest 9 has no STONE", x.where(9), STATE);
    }

    static void gateUnknownFirst() {
        of(18, "UNKNOWN: the COLUMN; OUTSIDE: the row 0 to 9, WIDE.");
        GuestStones x = overhang();
        for (int c : new int[] {-1, 6, LEAST, GREATEST}) {
            due("and the row", x.gate(c, 10, 1), UNKNOWN);
            due("and WIDE", x.gate(c, 0, 0), UNKNOWN);
            due("and both", x.gate(c, -1, 4), UNKNOWN);
        }
        due("the row and WIDE", x.gate(0, -1, 4), OUTSIDE);
    }

    static void ordersNoBeforeFull() {
        of(19, "NO: there is a FAULT, an ACT that is no put, or a GUEST twice; FULL: more than 6.");
        GuestStones x = ten(9);
        String six = "A0B1C2D3E4F5";
        for (String text : new String[] {six + "G6H", six + "G6H9", six + "G-", "G-" + six, six + "F5", six + "A0", six + "G6H7I8J0A0"}) {
            write(x, text);
            due("how many of " + text, x.orders(-1), NO);
            due("far of " + text, x.orders(GREATEST), NO);
        }
        write(x, six + "G6");
        due("how many of seven", x.orders(-1), FULL);
        due("far of seven", x.orders(LEAST), FULL);
    }

    static void highOutsideBeforeFull() {
        of(20, "OUTSIDE; FULL: more than 3 STONES are not in the WALL.");
        GuestStones x = town();
        refusedBeyond("high of four", x::high, 0, 1, OUTSIDE);
        due("high(0) of four", x.high(0), FULL);
        due("high(1) of four", x.high(1), FULL);
    }

    static void seenInOrder() {
        of(23, "UNKNOWN; OUTSIDE; FULL.");
        GuestStones x = new GuestStones();
        due("COLUMN and HIGH", x.seen(6, 11), UNKNOWN);
        due("COLUMN and HIGH, far", x.seen(LEAST, GREATEST), UNKNOWN);
        for (int i = 0; i < 8; i++) {
            x.seen(0, 0);
        }
        due("COLUMN and FULL", x.seen(6, 0), UNKNOWN);
        due("COLUMN, HIGH and FULL", x.seen(-1, -1), UNKNOWN);
        due("HIGH and FULL", x.seen(0, 11), OUTSIDE);
        due("HIGH and FULL", x.seen(0, -1), OUTSIDE);
        due("FULL", x.seen(0, 10), FULL);
    }

    static void restoreOutsideBeforeState() {
        of(30, "OUTSIDE; STATE: it was not.");
        GuestStones x = new GuestStones();
        refusedBeyond("restore of none", x::restore, 0, 1, OUTSIDE);
        due("restore(0)", x.restore(0), STATE);
    }

    // ---- fractions and bits

    static void loadInLowestTerms() {
        of(12, "Fractions are told in lowest terms by part: 0 the upper, 1 the lower number;");
        // 12 thirds are 4, 26 thirds stay; 6 halves are 3; nothing is 0 by 1.
        GuestStones x = walled(9, 1, 1, 50, 2, 1, 50, 3, 12, 50, 3, 13, 50);
        build(x, "A0B1C0");
        loaded(x, 0, 4, 1);
        loaded(x, 1, 8, 1);
        loaded(x, 2, 0, 1);
        build(x, "C-D0");
        loaded(x, 0, 13, 3);
        loaded(x, 1, 26, 3);
    }

    static void strainInLowestTerms() {
        of(13, "Fractions are told in lowest terms by part: 0 the upper, 1 the lower number;");
        int[] bears = {20, 12, 24, 10, 200, 11};
        int[][] wanted = {{1, 2}, {5, 6}, {5, 12}, {1, 1}, {1, 20}, {10, 11}};
        for (int i = 0; i < bears.length; i++) {
            GuestStones x = stones(1, 1, bears[i], 1, 10, 0);
            build(x, "A0B0");
            strained(x, wanted[i][0], wanted[i][1]);
        }
        GuestStones y = walled(9, 1, 1, 8, 2, 1, 50, 3, 12, 50);
        build(y, "A0B1C0");
        strained(y, 1, 2);
    }

    static void weakInLowestTerms() {
        of(27, "Fractions are told in lowest terms by part: 0 the upper, 1 the lower number;");
        GuestStones x = overhang();
        due("64 of 100: the upper", x.weak(2, 0, 0), 16);
        due("64 of 100: the lower", x.weak(2, 0, 1), 25);
        due("20 of 10: the upper", x.weak(10, 1, 0), 2);
        due("20 of 10: the lower", x.weak(10, 1, 1), 1);
        due("0 of 100: the upper", x.weak(10, 0, 0), 0);
        due("0 of 100: the lower", x.weak(10, 0, 1), 1);
        due("0 of 10: the upper", x.weak(0, 1, 0), 0);
        due("0 of 10: the lower", x.weak(0, 1, 1), 1);
    }

    static void fractionsAreLost() {
        of(12, "refused with LOST and the refusal (added: LOST - 2 for OUTSIDE).");
        GuestStones x = new GuestStones();
        due("load of no GUEST", x.load(10, 0), -1000000000000000001L);
        due("load of another part", x.load(0, 2), -1000000000000000002L);
        due("load of what is not in the WALL", x.load(0, 0), -1000000000000000003L);
    }

    static void strainIsLost() {
        of(13, "(added: LOST - 2 for OUTSIDE)");
        due("strain(2)", new GuestStones().strain(2), -1000000000000000002L);
        due("strain(-1)", overhang().strain(-1), -1000000000000000002L);
    }

    static void weakIsLost() {
        of(27, "(added: LOST - 2 for OUTSIDE)");
        due("t", new GuestStones().weak(11, 0, 0), -1000000000000000002L);
        due("what", new GuestStones().weak(0, 2, 0), -1000000000000000002L);
        due("part", new GuestStones().weak(0, 0, 2), -1000000000000000002L);
    }

    static void setsAreBits() {
        of(31, "Sets of GUESTS, of STONES (by whose they are) are bits.");
        for (int g = 0; g < 10; g++) {
            GuestStones x = new GuestStones();
            x.guest(g, 1, 1, 50);
            due("told(2)", x.told(2), 1 << g);
            due("gate", x.gate(0, 0, 1), 1 << g);
            due("who in some", x.who(1, 1), 1 << g);
            due("who in all", x.who(1, 2), 1 << g);
            build(x, (char) ('A' + g) + "0");
            due("told(3)", x.told(3), 1 << g);
            // Another one on it: it BEARS one and is strained by it; gone, the other falls.
            int other = (g + 1) % 10;
            x.guest(other, 1, 20, 50);
            build(x, (char) ('A' + other) + "0");
            due("falls", x.falls(1 << g), 1 << other);
            build(x, (char) ('A' + other) + "-" + (char) ('A' + g) + "-");
            x.guest(g, 1, 1, 20);
            build(x, (char) ('A' + g) + "0" + (char) ('A' + other) + "0");
            due("bulges", x.bulges(), 1 << g);
        }
    }

    // ---- refused calls change nothing

    /** A WALL, a PAD that can be done, SIGHTS, both IMAGES. */
    static GuestStones full() {
        GuestStones x = overhang();
        x.guest(5, 1, 2, 3);
        x.seen(0, 1);
        x.seen(3, 3);
        x.image(0);
        build(x, "D-");
        x.seen(1, 2);
        x.image(1);
        build(x, "D2");
        x.forget();
        x.seen(2, 3);
        write(x, "D-F5C-");
        return x;
    }

    /** As full(), but no SIGHT and no PAD can be added, and the PAD has a FAULT in its last sign. */
    static GuestStones crammed() {
        GuestStones x = full();
        write(x, times(29, "F5F-").substring(0, 58) + "D6");
        for (int i = 0; i < 7; i++) {
            x.seen(5, 0);
        }
        return x;
    }

    /** More than three STONES are not in the WALL, seven ACTS are on the PAD, no IMAGE is kept. */
    static GuestStones loose() {
        GuestStones x = ten(6);
        build(x, "A0B0");
        write(x, "C1D1E2F3G4H5I0");
        return x;
    }

    /** All that later calls show: now, behind the PAD, and by each IMAGE. */
    static List<Long> future(Supplier<GuestStones> made, ToLongFunction<GuestStones> call) {
        List<Long> all = new ArrayList<>();
        for (int way = 0; way < 4; way++) {
            GuestStones x = made.get();
            all.add(call.applyAsLong(x));
            if (way == 1) {
                all.add((long) x.done());
            } else if (way > 1) {
                all.add((long) x.restore(way - 2));
                x.wipe();
            }
            all.addAll(shown(x));
            all.add((long) x.say('A'));
            all.add((long) x.wipe());
            all.add((long) x.seen(0, 0));
            all.add((long) x.forget());
        }
        return all;
    }

    /** Each call is refused so, by each of those walls that it is refused by, and changes nothing. */
    @SafeVarargs
    static void changesNothing(Supplier<GuestStones> made, long refusal, ToLongFunction<GuestStones>... calls) {
        List<Long> same = future(made, x -> refusal);
        for (int i = 0; i < calls.length; i++) {
            due("the refused call " + i, calls[i].applyAsLong(made.get()), refusal);
            due("nothing is changed by the refused call " + i, future(made, calls[i]).equals(same) ? 1 : 0, 1);
        }
    }

    static void wallChangesNothing() {
        of(2, "They change nothing.");
        changesNothing(RefusalSentences::full, OUTSIDE, x -> x.wall(1), x -> x.wall(10), x -> x.wall(0), x -> x.wall(-6), x -> x.wall(LEAST), x -> x.wall(GREATEST));
    }

    static void guestChangesNothing() {
        of(3, "They change nothing.");
        changesNothing(RefusalSentences::full, UNKNOWN, x -> x.guest(-1, 1, 1, 1), x -> x.guest(10, 1, 1, 1), x -> x.guest(32, 1, 1, 1), x -> x.guest(LEAST, 1, 1, 1));
        changesNothing(RefusalSentences::full, OUTSIDE, x -> x.guest(5, 0, 1, 1), x -> x.guest(5, 4, 1, 1), x -> x.guest(6, 1, 0, 1),
                x -> x.guest(6, 1, 21, 1), x -> x.guest(5, 1, 1, -1), x -> x.guest(6, 3, 20, 201));
        changesNothing(RefusalSentences::full, STATE, x -> x.guest(0, 1, 1, 1), x -> x.guest(3, 3, 20, 200));
    }

    static void sayChangesNothing() {
        of(4, "They change nothing.");
        changesNothing(RefusalSentences::full, OUTSIDE, x -> x.say(32), x -> x.say(127), x -> x.say(LEAST), x -> x.say(GREATEST), x -> x.say(256 + 'A'));
        changesNothing(RefusalSentences::crammed, OUTSIDE, x -> x.say(32), x -> x.say(127));
        changesNothing(RefusalSentences::crammed, FULL, x -> x.say('A'), x -> x.say('-'), x -> x.say(33), x -> x.say(126));
    }

    static void judgeChangesNothing() {
        of(7, "They change nothing.");
        changesNothing(RefusalSentences::full, OUTSIDE, x -> x.judge(-1), x -> x.judge(2));
        changesNothing(RefusalSentences::crammed, NO, x -> x.judge(0), x -> x.judge(1));
    }

    static void doneChangesNothing() {
        of(8, "They change nothing.");
        changesNothing(RefusalSentences::crammed, NO, x -> x.done());
        changesNothing(() -> {
            GuestStones x = full();
            write(x, "F5C-D-A-A0B-F-F-");
            return x;
        }, NO, x -> x.done(), x -> x.behind(0, 0), x -> x.height(0));
    }

    static void stateChangesNothing() {
        of(9, "They change nothing.");
        changesNothing(RefusalSentences::full, UNKNOWN, x -> x.state(-1, 0), x -> x.state(10, 0));
        changesNothing(RefusalSentences::full, OUTSIDE, x -> x.state(0, 2), x -> x.state(0, -1));
    }

    static void behindChangesNothing() {
        of(10, "They change nothing.");
        changesNothing(RefusalSentences::full, UNKNOWN, x -> x.behind(-1, 0), x -> x.behind(10, 0));
        changesNothing(RefusalSentences::full, OUTSIDE, x -> x.behind(0, 2), x -> x.behind(0, -1));
        changesNothing(RefusalSentences::crammed, NO, x -> x.behind(0, 0), x -> x.behind(5, 1));
    }

    static void heightChangesNothing() {
        of(11, "They change nothing.");
        changesNothing(RefusalSentences::full, UNKNOWN, x -> x.height(-1), x -> x.height(6));
        changesNothing(RefusalSentences::crammed, NO, x -> x.height(0), x -> x.height(5));
    }

    static void loadChangesNothing() {
        of(12, "They change nothing.");
        changesNothing(RefusalSentences::full, LOST - 1, x -> x.load(-1, 0), x -> x.load(10, 0));
        changesNothing(RefusalSentences::full, LOST - 2, x -> x.load(0, 2), x -> x.load(0, -1));
        changesNothing(RefusalSentences::full, LOST - 3, x -> x.load(5, 0), x -> x.load(9, 1));
    }

    static void strainChangesNothing() {
        of(13, "They change nothing.");
        changesNothing(RefusalSentences::full, LOST - 2, x -> x.strain(2), x -> x.strain(-1));
    }

    static void touchOfNoneChangesNothing() {
        of(15, "NONE (i below -1, too).");
        changesNothing(RefusalSentences::full, NONE, x -> x.touch(-2), x -> x.touch(LEAST), x -> x.touch(GREATEST), x -> x.touch(99));
    }

    static void gapsChangesNothing() {
        of(16, "They change nothing.");
        changesNothing(RefusalSentences::full, UNKNOWN, x -> x.gaps(-2), x -> x.gaps(6));
    }

    static void whereChangesNothing() {
        of(17, "They change nothing.");
        changesNothing(RefusalSentences::full, UNKNOWN, x -> x.where(-1), x -> x.where(10));
        changesNothing(RefusalSentences::full, STATE, x -> x.where(0), x -> x.where(9));
    }

    static void gateChangesNothing() {
        of(18, "They change nothing.");
        changesNothing(RefusalSentences::full, UNKNOWN, x -> x.gate(-1, 0, 1), x -> x.gate(6, 0, 1));
        changesNothing(RefusalSentences::full, OUTSIDE, x -> x.gate(0, -1, 1), x -> x.gate(0, 10, 1), x -> x.gate(0, 0, 0), x -> x.gate(0, 0, 4));
    }

    static void ordersChangesNothing() {
        of(19, "They change nothing.");
        changesNothing(RefusalSentences::full, NO, x -> x.orders(-1), x -> x.orders(0));
        changesNothing(RefusalSentences::crammed, NO, x -> x.orders(-1), x -> x.orders(0));
        changesNothing(RefusalSentences::loose, FULL, x -> x.orders(-1), x -> x.orders(0));
    }

    static void highChangesNothing() {
        of(20, "They change nothing.");
        changesNothing(RefusalSentences::full, OUTSIDE, x -> x.high(-1), x -> x.high(2));
        changesNothing(RefusalSentences::loose, FULL, x -> x.high(0), x -> x.high(1));
    }

    static void fallsChangesNothing() {
        of(21, "They change nothing.");
        changesNothing(RefusalSentences::full, OUTSIDE, x -> x.falls(-1), x -> x.falls(1024), x -> x.falls(LEAST), x -> x.falls(GREATEST));
    }

    static void keyChangesNothing() {
        of(22, "They change nothing.");
        changesNothing(RefusalSentences::full, OUTSIDE, x -> x.key(-1), x -> x.key(2));
    }

    static void seenChangesNothing() {
        of(23, "They change nothing.");
        changesNothing(RefusalSentences::full, UNKNOWN, x -> x.seen(-1, 0), x -> x.seen(6, 0));
        changesNothing(RefusalSentences::full, OUTSIDE, x -> x.seen(0, -1), x -> x.seen(0, 11));
        changesNothing(RefusalSentences::crammed, FULL, x -> x.seen(0, 1), x -> x.seen(5, 10));
    }

    static void whoChangesNothing() {
        of(25, "They change nothing.");
        changesNothing(RefusalSentences::full, OUTSIDE, x -> x.who(-1, 0), x -> x.who(3, 0), x -> x.who(0, -1), x -> x.who(0, 3));
    }

    static void lookChangesNothing() {
        of(26, "They change nothing.");
        changesNothing(RefusalSentences::full, OUTSIDE, x -> x.look(-1, 0), x -> x.look(3, 0), x -> x.look(0, -1), x -> x.look(0, 2));
    }

    static void weakChangesNothing() {
        of(27, "They change nothing.");
        changesNothing(RefusalSentences::full, LOST - 2, x -> x.weak(-1, 0, 0), x -> x.weak(11, 0, 0), x -> x.weak(0, 2, 0), x -> x.weak(0, 0, 2));
    }

    static void yearChangesNothing() {
        of(28, "They change nothing.");
        changesNothing(RefusalSentences::full, OUTSIDE, x -> x.year(-1, 1, 0), x -> x.year(10000, 1, 0), x -> x.year(0, 0, 0), x -> x.year(0, 100, 0), x -> x.year(0, 1, 3));
    }

    static void imageChangesNothing() {
        of(29, "They change nothing.");
        changesNothing(RefusalSentences::full, OUTSIDE, x -> x.image(-1), x -> x.image(2), x -> x.image(LEAST), x -> x.image(GREATEST));
        changesNothing(RefusalSentences::loose, OUTSIDE, x -> x.image(-1), x -> x.image(2));
    }

    static void restoreChangesNothing() {
        of(30, "They change nothing.");
        changesNothing(RefusalSentences::full, OUTSIDE, x -> x.restore(-1), x -> x.restore(2));
        changesNothing(RefusalSentences::loose, STATE, x -> x.restore(0), x -> x.restore(1));
    }

    static void toldChangesNothing() {
        of(31, "They change nothing.");
        changesNothing(RefusalSentences::full, OUTSIDE, x -> x.told(-1), x -> x.told(5), x -> x.told(13), x -> x.told(50), x -> x.told(110));
    }
}
