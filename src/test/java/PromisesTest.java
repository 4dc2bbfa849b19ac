/**
 * Each promise by answers that were reckoned by hand from the document: ordinary calls, the edges
 * that it names, each refusal, and the order in which refusals are answered.
 */
public final class PromisesTest {
    static final int NONE = -6, UNKNOWN = -1, OUTSIDE = -2, STATE = -3, FULL = -4, NO = -5;
    static final long LOST = -1000000000000000000L;
    static int wrong = 0;
    static int asked = 0;
    static int promise = 0;

    static void due(String what, long got, long want) {
        asked++;
        if (got != want) {
            wrong++;
            System.out.println("promise " + promise + ": " + what + " answered " + got + ", due is " + want);
        }
    }

    /** The PAD is wiped and holds this text. */
    static void write(GuestStones x, String text) {
        x.wipe();
        for (int i = 0; i < text.length(); i++) {
            due("say in " + text, x.say(text.charAt(i)), i + 1);
        }
    }

    static void build(GuestStones x, String years) {
        write(x, years);
        due("done of " + years, x.done(), years.length() / 2);
    }

    static void judged(GuestStones x, String years, int act, int why) {
        write(x, years);
        due("judge(0) of " + years, x.judge(0), act);
        due("judge(1) of " + years, x.judge(1), why);
    }

    /** A 2 WIDE, B 3 WIDE, C 1 WIDE, D 2 WIDE that BEARS 0. */
    static GuestStones town() {
        GuestStones x = new GuestStones();
        x.guest(0, 2, 4, 10);
        x.guest(1, 3, 6, 20);
        x.guest(2, 1, 3, 5);
        x.guest(3, 2, 8, 0);
        return x;
    }

    /** B in row 0 from COLUMN 0, A on it at 1, D on A at 2, beyond an empty COLUMN 3, C apart. */
    static GuestStones overhang() {
        GuestStones x = town();
        build(x, "B0A1C4D2");
        return x;
    }

    /** Ten STONES, 1 WIDE, of WEIGHT 1, that BEAR much. */
    static GuestStones ten() {
        GuestStones x = new GuestStones();
        for (int g = 0; g < 10; g++) {
            x.guest(g, 1, 1, 200);
        }
        return x;
    }

    public static void main(String[] args) {
        newObject();
        wall();
        guest();
        say();
        wipe();
        fault();
        judge();
        done();
        state();
        behind();
        height();
        load();
        strain();
        bulges();
        touch();
        gaps();
        where();
        gate();
        orders();
        high();
        falls();
        key();
        seen();
        forget();
        who();
        look();
        weak();
        year();
        image();
        restore();
        told();
        System.out.println("PromisesTest: " + asked + " answers, " + wrong + " wrong");
        if (wrong != 0) {
            System.exit(1);
        }
    }

    static void newObject() {
        promise = 1;
        GuestStones x = new GuestStones();
        due("signs", x.told(0), 0);
        due("columns", x.told(1), 6);
        due("guests", x.told(2), 0);
        due("stones", x.told(3), 0);
        due("sights", x.told(4), 0);
        for (int g = 0; g < 10; g++) {
            due("no stone", x.told(10 + 10 * g), OUTSIDE);
            due("not in the wall", x.state(g, 0), NONE);
        }
        for (int c = 0; c < 6; c++) {
            due("height", x.height(c), 0);
        }
        due("image", x.restore(0), STATE);
        due("image", x.restore(1), STATE);
    }

    static void wall() {
        promise = 2;
        GuestStones x = overhang();
        x.seen(0, 1);
        write(x, "A5");
        due("10", x.wall(10), OUTSIDE);
        due("1", x.wall(1), OUTSIDE);
        due("-2147483648", x.wall(Integer.MIN_VALUE), OUTSIDE);
        due("2147483647", x.wall(Integer.MAX_VALUE), OUTSIDE);
        due("nothing is changed", x.told(3), 15);
        due("nothing is changed", x.told(4), 1);
        due("5", x.wall(5), 6);
        due("stones", x.told(3), 0);
        due("guests", x.told(2), 0);
        due("columns", x.told(1), 5);
        due("sights", x.told(4), 0);
        due("the pad stays", x.told(0), 2);
        due("there is no column 5 now", x.fault(), 1);
        x.wipe();
        due("height", x.height(1), 0);
        due("gaps", x.gaps(-1), 0);
        due("the last column", x.height(4), 0);
        due("beyond the last", x.height(5), UNKNOWN);
        due("2", x.wall(2), 5);
        due("9", x.wall(9), 2);
        due("9 again", x.wall(9), 9);
        x.guest(0, 3, 1, 1);
        build(x, "A6");
        due("at the edge of nine", x.height(8), 1);
        // Nothing of what lay there is left, in no cell.
        x = overhang();
        x.wall(6);
        x.guest(0, 2, 4, 10);
        x.guest(2, 1, 3, 5);
        build(x, "C1A0");
        due("an empty cell", x.gaps(0), 1);
        judged(x, "C-", 0, 5);
        due("nothing else bears it", x.load(2, 0), 4);
    }

    static void guest() {
        promise = 3;
        GuestStones x = new GuestStones();
        due("the least numbers", x.guest(0, 1, 1, 0), 1);
        due("the greatest numbers", x.guest(9, 3, 20, 200), 2);
        due("wide", x.told(100), 3);
        due("weight", x.told(101), 20);
        due("bears", x.told(102), 200);
        due("another stone", x.guest(9, 2, 19, 199), 2);
        due("wide", x.told(100), 2);
        due("weight", x.told(101), 19);
        due("bears", x.told(102), 199);
        due("guest -1", x.guest(-1, 1, 1, 1), UNKNOWN);
        due("guest 10", x.guest(10, 1, 1, 1), UNKNOWN);
        due("UNKNOWN goes first", x.guest(10, 0, 0, -1), UNKNOWN);
        due("wide 0", x.guest(1, 0, 1, 1), OUTSIDE);
        due("wide 4", x.guest(1, 4, 1, 1), OUTSIDE);
        due("weight 0", x.guest(1, 1, 0, 1), OUTSIDE);
        due("weight 21", x.guest(1, 1, 21, 1), OUTSIDE);
        due("bears -1", x.guest(1, 1, 1, -1), OUTSIDE);
        due("bears 201", x.guest(1, 1, 1, 201), OUTSIDE);
        due("nothing is changed", x.told(2), 513);
        build(x, "A0");
        due("in the wall", x.guest(0, 2, 2, 2), STATE);
        due("OUTSIDE goes before STATE", x.guest(0, 4, 2, 2), OUTSIDE);
        due("nothing is changed", x.told(10), 1);
        due("others can", x.guest(1, 1, 1, 1), 3);
        build(x, "A-");
        due("taken out", x.guest(0, 2, 2, 2), 3);
        due("it is another now", x.told(10), 2);
    }

    static void say() {
        promise = 4;
        GuestStones x = new GuestStones();
        due("32", x.say(32), OUTSIDE);
        due("127", x.say(127), OUTSIDE);
        due("-1", x.say(-1), OUTSIDE);
        due("33", x.say(33), 1);
        due("126", x.say(126), 2);
        for (int i = 3; i <= 60; i++) {
            due("more", x.say('A'), i);
        }
        due("the 61st", x.say('A'), FULL);
        due("OUTSIDE goes before FULL", x.say(32), OUTSIDE);
        due("nothing is changed", x.told(0), 60);
    }

    static void wipe() {
        promise = 5;
        GuestStones x = new GuestStones();
        due("none", x.wipe(), 0);
        x.say('A');
        x.say('0');
        x.say('B');
        due("three", x.wipe(), 3);
        due("none", x.wipe(), 0);
        due("signs", x.told(0), 0);
        due("no fault", x.fault(), NONE);
        for (int i = 0; i < 60; i++) {
            x.say('~');
        }
        due("sixty", x.wipe(), 60);
        due("room again", x.say('A'), 1);
    }

    static void fault() {
        promise = 6;
        GuestStones x = new GuestStones();
        String[] texts = {"", "A", "A0", "A0B", "A0B5", "A0B6", "J-", "K0", "@0", "a0", "00", "A/", "A+", "A-K", "A-A-A", "--", "AA", "-0", "A0B1C:", "A.J5"};
        int[] places = {NONE, 1, NONE, 3, NONE, 3, NONE, 0, 0, 0, 0, 1, 1, 2, 5, 0, 1, 0, 5, 1};
        for (int i = 0; i < texts.length; i++) {
            write(x, texts[i]);
            due(texts[i], x.fault(), places[i]);
        }
        x.wall(9);
        write(x, "A8");
        due("A8 of nine columns", x.fault(), NONE);
        write(x, "A9");
        due("A9 of nine columns", x.fault(), 1);
        x.wall(2);
        write(x, "A1A2");
        due("A1A2 of two columns", x.fault(), 3);
    }

    static void judge() {
        promise = 7;
        GuestStones x = town();
        judged(x, "", NONE, NONE);
        judged(x, "B0A1", NONE, NONE);
        judged(x, "E0", 0, 1);
        judged(x, "E5", 0, 1);
        judged(x, "E-", 0, 1);
        judged(x, "A-", 0, 1);
        judged(x, "A0A0", 1, 1);
        judged(x, "A0A5", 1, 1);
        judged(x, "A0A-A-", 2, 1);
        judged(x, "A0A-A2", NONE, NONE);
        judged(x, "A5", 0, 2);
        judged(x, "B4", 0, 2);
        judged(x, "B3", NONE, NONE);
        judged(x, "C5", NONE, NONE);
        // One of three cells is held: it would fall; two of three, or one of two, are enough.
        judged(x, "C0B0", 1, 3);
        judged(x, "A0B0", NONE, NONE);
        judged(x, "A1B0", NONE, NONE);
        judged(x, "C0A0", NONE, NONE);
        // A's cells are above COLUMNS 1 and 2, B's above COLUMN 2 alone.
        judged(x, "A1B2", 1, 3);
        judged(x, "D0C1", 1, 4);
        // C BEARS 5: 8 are too much alone, and half of them are not.
        judged(x, "C0D0", 1, 4);
        judged(x, "C0A1D0", NONE, NONE);
        // BEYOND goes before falling, falling before weight.
        judged(x, "C5A5", 1, 2);
        judged(x, "D2B2A5", 1, 4);
        judged(x, "D2B3", 1, 3);
        judged(x, "D0C0", 1, 4);
        judged(x, "B0C1B-", 2, 5);
        judged(x, "B0C1C-B-", NONE, NONE);
        // Nothing is right above A, though D hangs over the COLUMN.
        judged(x, "A0C2B1C-", 3, 5);
        judged(x, "B0A1C4D2C-", NONE, NONE);
        // The last of thirty ACTS.
        judged(x, "A0A-A0A-A0A-A0A-A0A-A0A-A0A-A0A-A0A-A0A-A0A-A0A-A0A-A0A-A0A5", 29, 1);
        judged(x, "A0A-A0A-A0A-A0A-A0A-A0A-A0A-A0A-A0A-A0A-A5A0A-A-A-A-A-A-A-A0", 20, 2);
        due("2", x.judge(2), OUTSIDE);
        due("-1", x.judge(-1), OUTSIDE);
        write(x, "A");
        due("fault", x.judge(0), NO);
        due("fault", x.judge(1), NO);
        due("OUTSIDE goes before NO", x.judge(2), OUTSIDE);
        // From now on, not from an empty WALL.
        build(x, "B0");
        judged(x, "B0", 0, 1);
        judged(x, "A1", NONE, NONE);
        judged(x, "B-B0", NONE, NONE);
        due("nothing is done", x.told(3), 2);

        // Under an overhang: E lies below D's empty side, nothing is right above it.
        GuestStones y = town();
        y.guest(4, 1, 1, 5);
        judged(y, "E3B0A1D2E-", NONE, NONE);
        // Weight that is just borne, and just too much, at the end of a chain of shares.
        GuestStones z = new GuestStones();
        z.guest(0, 1, 1, 10);
        z.guest(1, 1, 1, 10);
        z.guest(2, 2, 20, 200);
        z.guest(3, 1, 1, 10);
        judged(z, "A0B1C0", NONE, NONE);
        judged(z, "A0B1C0D0", 3, 4);
    }

    static void done() {
        promise = 8;
        GuestStones x = town();
        due("no acts", x.done(), 0);
        write(x, "A0A");
        due("fault", x.done(), NO);
        due("the pad stays", x.told(0), 3);
        write(x, "A0A1");
        due("can not be", x.done(), NO);
        due("the pad stays", x.told(0), 4);
        due("nothing is done", x.told(3), 0);
        write(x, "A0A-A1");
        due("three", x.done(), 3);
        due("the pad is empty", x.told(0), 0);
        due("stones", x.told(3), 1);
        due("where", x.state(0, 1), 1);
        due("again, without acts", x.done(), 0);
        build(x, "A-");
        due("taken out", x.told(3), 0);
        due("he has it still", x.told(2), 15);
        GuestStones y = ten();
        build(y, "A0A-A0A-A0A-A0A-A0A-A0A-A0A-A0A-A0A-A0A-A0A-A0A-A0A-A0A-A0B0");
        due("thirty acts", y.told(3), 3);
    }

    static void state() {
        promise = 9;
        GuestStones x = overhang();
        int[] rows = {1, 0, 0, 2};
        int[] columns = {1, 0, 4, 2};
        for (int g = 0; g < 4; g++) {
            due("row", x.state(g, 0), rows[g]);
            due("column", x.state(g, 1), columns[g]);
        }
        due("no stone", x.state(9, 0), NONE);
        due("no stone", x.state(9, 1), NONE);
        x.guest(9, 1, 1, 1);
        due("not in the wall", x.state(9, 1), NONE);
        due("-1", x.state(-1, 0), UNKNOWN);
        due("10", x.state(10, 0), UNKNOWN);
        due("UNKNOWN goes first", x.state(10, 2), UNKNOWN);
        due("what 2", x.state(0, 2), OUTSIDE);
        due("what -1", x.state(9, -1), OUTSIDE);
        write(x, "D-");
        due("the pad is not done", x.state(3, 0), 2);
        x.done();
        due("taken out", x.state(3, 0), NONE);
    }

    static void behind() {
        promise = 10;
        GuestStones x = town();
        due("no acts", x.behind(0, 0), NONE);
        write(x, "B0A1C4D2");
        due("row", x.behind(3, 0), 2);
        due("column", x.behind(3, 1), 2);
        due("column", x.behind(2, 1), 4);
        due("no stone", x.behind(9, 1), NONE);
        due("not done", x.state(3, 0), NONE);
        due("-1", x.behind(-1, 0), UNKNOWN);
        due("10", x.behind(10, 0), UNKNOWN);
        due("what 2", x.behind(0, 2), OUTSIDE);
        due("what -1", x.behind(0, -1), OUTSIDE);
        x.done();
        due("as it is", x.behind(3, 0), 2);
        write(x, "D-D0");
        due("elsewhere", x.behind(3, 0), 2);
        due("elsewhere", x.behind(3, 1), 0);
        write(x, "D-D5");
        due("can not be", x.behind(3, 0), NO);
        write(x, "D-");
        due("taken out", x.behind(3, 0), NONE);
        due("others", x.behind(1, 1), 0);
        write(x, "D");
        due("fault", x.behind(3, 0), NO);
        due("OUTSIDE goes before NO", x.behind(3, 2), OUTSIDE);
        due("UNKNOWN goes first", x.behind(10, 2), UNKNOWN);
    }

    static void height() {
        promise = 11;
        GuestStones x = town();
        write(x, "B0A1C4D2");
        int[] heights = {1, 2, 3, 3, 1, 0};
        for (int c = 0; c < 6; c++) {
            due("column " + c, x.height(c), heights[c]);
        }
        due("-1", x.height(-1), UNKNOWN);
        due("6", x.height(6), UNKNOWN);
        x.done();
        due("as it is", x.height(3), 3);
        write(x, "D-");
        due("taken out", x.height(3), 0);
        due("taken out", x.height(2), 2);
        write(x, "B-");
        due("can not be", x.height(0), NO);
        due("UNKNOWN goes first", x.height(6), UNKNOWN);
        write(x, "B");
        due("fault", x.height(0), NO);
        due("UNKNOWN goes first", x.height(-1), UNKNOWN);
        x.wall(9);
        x.wipe();
        due("8 of nine", x.height(8), 0);
        GuestStones y = ten();
        build(y, "A0B0C0D0E0F0G0H0I0J0");
        due("ten high", y.height(0), 10);
        due("the highest row", y.state(9, 0), 9);
        due("the lowest bears nine", y.load(0, 0), 9);
        // A taken-out STONE leaves a hole, the COLUMN stays as high.
        GuestStones z = town();
        z.guest(4, 1, 1, 5);
        build(z, "E3B0A1D2");
        write(z, "E-");
        due("a hole", z.height(3), 3);
        write(z, "E-E4");
        due("not below the overhang", z.height(4), 1);
        write(z, "E-E3");
        due("D bears nothing", z.height(3), NO);
    }

    static void load() {
        promise = 12;
        GuestStones x = overhang();
        int[] loads = {8, 12, 0, 0};
        for (int g = 0; g < 4; g++) {
            due("upper", x.load(g, 0), loads[g]);
            due("lower", x.load(g, 1), 1);
        }
        due("-1", x.load(-1, 0), LOST - 1);
        due("10", x.load(10, 0), LOST - 1);
        due("UNKNOWN goes first", x.load(10, 2), LOST - 1);
        due("part 2", x.load(0, 2), LOST - 2);
        due("part -1", x.load(0, -1), LOST - 2);
        due("OUTSIDE goes before STATE", x.load(9, 2), LOST - 2);
        due("no stone", x.load(9, 0), LOST - 3);
        x.guest(9, 1, 1, 1);
        due("not in the wall", x.load(9, 1), LOST - 3);
        write(x, "D-");
        due("now, not behind", x.load(0, 0), 8);
        // E's 7 go on B, then thirds of 13: two on A, one on C.
        GuestStones y = thirds();
        due("A", y.load(0, 0), 26);
        due("A", y.load(0, 1), 3);
        due("C", y.load(2, 0), 13);
        due("C", y.load(2, 1), 3);
        due("B", y.load(1, 0), 7);
        due("E", y.load(4, 0), 0);
        due("E", y.load(4, 1), 1);
        // Halves of halves: G's 1 on C and D, and with theirs on A, B, E and F.
        GuestStones z = ten();
        z.guest(2, 2, 1, 100);
        z.guest(3, 2, 1, 100);
        z.guest(6, 2, 1, 100);
        build(z, "A0B1E2F3C0D2G1");
        due("C", z.load(2, 0), 1);
        due("C", z.load(2, 1), 2);
        due("A", z.load(0, 0), 3);
        due("A", z.load(0, 1), 4);
        due("F", z.load(5, 0), 3);
        due("F", z.load(5, 1), 4);
        // Thirds of thirds: J and I on F, G and H; F on A, B and C.
        GuestStones t = ten();
        t.guest(5, 3, 1, 100);
        t.guest(8, 3, 1, 100);
        build(t, "A0B1C2D3E4F0G3H4I2J3");
        due("F", t.load(5, 0), 2);
        due("F", t.load(5, 1), 3);
        due("A", t.load(0, 0), 5);
        due("A", t.load(0, 1), 9);
        due("D", t.load(3, 0), 5);
        due("D", t.load(3, 1), 3);
    }

    static GuestStones thirds() {
        GuestStones y = town();
        y.guest(4, 1, 7, 99);
        build(y, "A0C2B0E1");
        return y;
    }

    static void strain() {
        promise = 13;
        GuestStones x = new GuestStones();
        due("empty", x.strain(0), 0);
        due("empty", x.strain(1), 1);
        due("part 2", x.strain(2), LOST - 2);
        due("part -1", x.strain(-1), LOST - 2);
        x = overhang();
        due("A: 8 of 10", x.strain(0), 4);
        due("A: 8 of 10", x.strain(1), 5);
        // C: 13 thirds of 5, A: 26 thirds of 10: as much.
        GuestStones y = thirds();
        due("13 of 15", y.strain(0), 13);
        due("13 of 15", y.strain(1), 15);
        GuestStones z = town();
        build(z, "D0");
        due("bears 0", z.strain(0), 0);
        due("bears 0", z.strain(1), 1);
        build(z, "B2C3");
        due("3 of 20", z.strain(0), 3);
        due("3 of 20", z.strain(1), 20);
        GuestStones full = new GuestStones();
        full.guest(0, 1, 1, 7);
        full.guest(1, 1, 7, 1);
        build(full, "A0B0");
        due("whole", full.strain(0), 1);
        due("whole", full.strain(1), 1);
    }

    static void bulges() {
        promise = 14;
        due("empty", new GuestStones().bulges(), 0);
        due("A", overhang().bulges(), 1);
        due("A and C", thirds().bulges(), 5);
        GuestStones x = new GuestStones();
        x.guest(0, 1, 1, 4);
        x.guest(1, 1, 3, 0);
        build(x, "A0B0");
        due("just three quarters", x.bulges(), 0);
        GuestStones y = new GuestStones();
        y.guest(9, 1, 1, 100);
        y.guest(1, 1, 20, 100);
        y.guest(2, 1, 20, 100);
        y.guest(3, 1, 20, 100);
        y.guest(4, 1, 16, 100);
        build(y, "J0B0C0D0E0");
        due("76 of 100", y.bulges(), 512);
    }

    static void touch() {
        promise = 15;
        GuestStones x = overhang();
        // A on B, D on A; C is apart: COLUMN 3 is empty below D.
        due("how many", x.touch(-1), 2);
        due("first", x.touch(0), 1);
        due("second", x.touch(1), 3);
        due("third", x.touch(2), NONE);
        due("-2", x.touch(-2), NONE);
        due("least", x.touch(Integer.MIN_VALUE), NONE);
        due("greatest", x.touch(Integer.MAX_VALUE), NONE);
        due("empty", new GuestStones().touch(-1), 0);
        due("empty", new GuestStones().touch(0), NONE);
        GuestStones y = ten();
        build(y, "J0I1H0G1A5");
        // J I side by side, H on J, G on I, H G side by side; corners do not touch.
        due("how many", y.touch(-1), 4);
        due("G H", y.touch(0), 67);
        due("G I", y.touch(1), 68);
        due("H J", y.touch(2), 79);
        due("I J", y.touch(3), 89);
        due("no more", y.touch(4), NONE);
        GuestStones z = town();
        z.guest(4, 2, 1, 50);
        build(z, "A0E2B1");
        // B lies on A and on E, with two cells on E: one two.
        due("how many", z.touch(-1), 3);
        due("A B", z.touch(0), 1);
        due("A E", z.touch(1), 4);
        due("B E", z.touch(2), 14);
    }

    static void gaps() {
        promise = 16;
        GuestStones x = overhang();
        int[] gaps = {0, 0, 0, 2, 0, 0};
        for (int c = 0; c < 6; c++) {
            due("column " + c, x.gaps(c), gaps[c]);
        }
        due("in all", x.gaps(-1), 2);
        due("-2", x.gaps(-2), UNKNOWN);
        due("6", x.gaps(6), UNKNOWN);
        due("least", x.gaps(Integer.MIN_VALUE), UNKNOWN);
        GuestStones y = town();
        y.guest(4, 1, 1, 5);
        build(y, "E3B0A1D2");
        due("one is filled", y.gaps(3), 1);
        write(y, "E-");
        due("now, not behind", y.gaps(3), 1);
        y.done();
        due("taken out", y.gaps(3), 2);
        due("empty", new GuestStones().gaps(-1), 0);
        GuestStones z = town();
        build(z, "C1A0");
        due("the first column", z.gaps(0), 1);
        due("in all", z.gaps(-1), 1);
    }

    static void where() {
        promise = 17;
        GuestStones x = town();
        due("empty", x.where(2), 0);
        build(x, "B0");
        due("beside", x.where(2), 3);
        due("beside", x.where(0), 3);
        due("in the wall", x.where(1), STATE);
        due("no stone", x.where(4), STATE);
        due("-1", x.where(-1), UNKNOWN);
        due("10", x.where(10), UNKNOWN);
        due("nothing is put", x.told(3), 2);
        // Three columns are full: on B it is all the same, the first is told.
        x.wall(3);
        x.guest(0, 2, 4, 10);
        x.guest(1, 3, 6, 20);
        x.guest(2, 1, 3, 5);
        build(x, "B0");
        due("first of several", x.where(2), 0);
        build(x, "C0");
        // A: at 0 it strains C by 4 of 5, at 1 B the more by 7 of 20.
        due("least strain", x.where(0), 1);
        GuestStones y = new GuestStones();
        y.wall(2);
        y.guest(0, 2, 1, 5);
        y.guest(1, 1, 6, 5);
        y.guest(2, 3, 1, 1);
        build(y, "A0");
        due("too heavy", y.where(1), NONE);
        due("too wide", y.where(2), NONE);
        // Equal strains by other fractions: 2 of 4 and 3 of 6 is the same, the first.
        GuestStones z = new GuestStones();
        z.wall(2);
        z.guest(0, 1, 1, 4);
        z.guest(1, 1, 1, 6);
        z.guest(2, 1, 2, 1);
        build(z, "A0B1");
        due("2 of 4, 2 of 6", z.where(2), 1);
    }

    static void gate() {
        promise = 18;
        GuestStones x = town();
        due("two wide", x.gate(0, 0, 2), 9);
        due("three wide", x.gate(3, 0, 3), 2);
        due("beyond", x.gate(4, 0, 3), 0);
        due("one wide", x.gate(5, 0, 1), 4);
        due("another row", x.gate(5, 1, 1), 0);
        due("row 9", x.gate(5, 9, 1), 0);
        build(x, "B0");
        due("on B", x.gate(0, 1, 2), 9);
        due("half on B", x.gate(2, 1, 2), 9);
        due("beside B", x.gate(3, 0, 2), 9);
        due("B is in the wall", x.gate(3, 0, 3), 0);
        due("-1", x.gate(-1, 0, 1), UNKNOWN);
        due("6", x.gate(6, 0, 1), UNKNOWN);
        due("UNKNOWN goes first", x.gate(6, 10, 4), UNKNOWN);
        due("row -1", x.gate(0, -1, 1), OUTSIDE);
        due("row 10", x.gate(0, 10, 1), OUTSIDE);
        due("wide 0", x.gate(0, 0, 0), OUTSIDE);
        due("wide 4", x.gate(0, 0, 4), OUTSIDE);
        due("nothing is put", x.told(3), 2);
        build(x, "D3");
        due("nothing on D", x.gate(3, 1, 1), 0);
        due("it would fall", x.gate(3, 1, 2), 0);
        GuestStones y = ten();
        build(y, "A0B0C0D0E0F0G0H0I0");
        due("the highest gate", y.gate(0, 9, 1), 512);
        due("the lowest", y.gate(1, 0, 1), 512);
        GuestStones z = new GuestStones();
        z.wall(2);
        z.guest(0, 3, 1, 1);
        due("wider than the wall", z.gate(0, 0, 3), 0);
    }

    static void orders() {
        promise = 19;
        GuestStones x = town();
        due("no acts", x.orders(-1), 1);
        due("no acts", x.orders(0), NONE);
        // A and C go beside B: in any order, B BEARS whatever there is.
        write(x, "B0A1C3");
        due("all", x.orders(-1), 6);
        due("first", x.orders(0), 0);
        due("second", x.orders(1), 1);
        due("third", x.orders(2), 2);
        due("behind the last", x.orders(3), NONE);
        due("-2", x.orders(-2), NONE);
        // D bears nothing: C is below it or nowhere; C would bear 8 of 5.
        write(x, "C0D0");
        due("no order", x.orders(-1), 0);
        due("no order", x.orders(0), NONE);
        // A STONE on A, 2 WIDE, stands; then C can not be on D.
        write(x, "D0A0");
        due("A first", x.orders(-1), 1);
        due("A first", x.orders(0), 0);
        due("D then", x.orders(1), 3);
        write(x, "C1B0");
        due("B first", x.orders(-1), 1);
        due("B first", x.orders(0), 1);
        due("C then", x.orders(1), 2);
        write(x, "A0A1");
        due("a guest twice", x.orders(-1), NO);
        write(x, "A0B-");
        due("no put", x.orders(-1), NO);
        due("NO goes before NONE", x.orders(9), NO);
        write(x, "A0B");
        due("fault", x.orders(-1), NO);
        write(x, "A0B0C0D0E0F0G0");
        due("seven", x.orders(-1), FULL);
        due("seven", x.orders(99), FULL);
        write(x, "A0B0C0D0E0F0G-");
        due("NO goes before FULL", x.orders(-1), NO);
        write(x, "A0B0C0D0E0F0A0");
        due("NO goes before FULL", x.orders(-1), NO);
        write(x, "A0B0C0D0E0F0G0H");
        due("NO goes before FULL", x.orders(-1), NO);
        write(x, "E0");
        due("no stone", x.orders(-1), 0);
        build(x, "B0");
        write(x, "B0");
        due("in the wall", x.orders(-1), 0);
        write(x, "A0");
        due("from now on", x.orders(-1), 1);
        due("nothing is put", x.told(3), 2);
        due("the pad stays", x.told(0), 2);
        GuestStones y = ten();
        write(y, "J0I1H2G3F4E5");
        due("six", y.orders(-1), 720);
        for (int i = 0; i < 6; i++) {
            due("by guests", y.orders(i), 4 + i);
        }
        due("behind the last", y.orders(6), NONE);
    }

    static void high() {
        promise = 20;
        GuestStones x = new GuestStones();
        due("none", x.high(0), 0);
        due("none", x.high(1), 0);
        due("2", x.high(2), OUTSIDE);
        due("-1", x.high(-1), OUTSIDE);
        x = town();
        due("four are free", x.high(0), FULL);
        due("four are free", x.high(1), FULL);
        due("OUTSIDE goes before FULL", x.high(2), OUTSIDE);
        // Of A 4 by 10, C 3 by 5, D 8 by 0 on B: D can lie on A alone, C then no more.
        build(x, "B0");
        due("three high", x.high(0), 3);
        due("by two", x.high(1), 2);
        due("nothing is put", x.told(3), 2);
        GuestStones y = ten();
        build(y, "A0B0C0D0E0F0G0");
        due("ten", y.high(0), 10);
        due("by three", y.high(1), 3);
        build(y, "H1I1");
        due("eight", y.high(0), 8);
        due("by one", y.high(1), 1);
        build(y, "J1");
        due("as it is", y.high(0), 7);
        due("by none", y.high(1), 0);
        // The higher COLUMN bears no more: two are put on the other, in vain.
        GuestStones z = new GuestStones();
        z.guest(0, 1, 1, 1);
        z.guest(1, 1, 1, 0);
        z.guest(2, 1, 1, 0);
        due("two", z.high(0), 2);
        due("by two", z.high(1), 2);
        build(z, "A0B0");
        due("as it is", z.high(0), 2);
        due("by none", z.high(1), 0);
        // Three, put in one order alone: the widest below, the weak on top.
        GuestStones o = new GuestStones();
        o.guest(0, 1, 1, 0);
        o.guest(1, 1, 1, 1);
        o.guest(2, 1, 1, 2);
        due("three", o.high(0), 3);
        due("by three", o.high(1), 3);
    }

    static void falls() {
        promise = 21;
        GuestStones x = overhang();
        due("none", x.falls(0), 0);
        due("B: A and D", x.falls(2), 9);
        due("A: D", x.falls(1), 8);
        due("A and B: D", x.falls(3), 8);
        due("C", x.falls(4), 0);
        due("those not in the wall", x.falls(1008), 0);
        due("all", x.falls(1023), 0);
        due("-1", x.falls(-1), OUTSIDE);
        due("1024", x.falls(1024), OUTSIDE);
        due("nothing is gone", x.told(3), 15);
        // C gone, A bears all 13 and is crushed; A gone, B does not stand and C bears all 13:
        // both fall at once; then E.
        GuestStones y = thirds();
        due("C: A, B, E", y.falls(4), 19);
        due("A: B and C, E", y.falls(1), 22);
        due("E", y.falls(16), 0);
        // By weight: B on A and C; A gone, all of it is on C, that BEARS half.
        GuestStones z = new GuestStones();
        z.guest(0, 1, 1, 5);
        z.guest(1, 2, 10, 10);
        z.guest(2, 1, 1, 5);
        z.guest(3, 1, 1, 200);
        build(z, "A0C1B0");
        due("A: C is crushed, then B falls", z.falls(1), 6);
        due("C: A is crushed, then B falls", z.falls(4), 3);
        due("both: B", z.falls(5), 2);
        // On a broad foot the STONE stays, when what is beside it goes.
        GuestStones w = new GuestStones();
        w.guest(0, 2, 1, 50);
        w.guest(1, 3, 9, 10);
        w.guest(2, 1, 1, 50);
        build(w, "A0C2B0");
        due("C: B stays", w.falls(4), 0);
        due("A: B falls", w.falls(1), 2);
    }

    static void key() {
        promise = 22;
        GuestStones x = new GuestStones();
        due("empty", x.key(0), NONE);
        due("empty", x.key(1), NONE);
        due("2", x.key(2), OUTSIDE);
        due("-1", x.key(-1), OUTSIDE);
        x = overhang();
        due("B", x.key(0), 1);
        due("two", x.key(1), 2);
        due("nothing is gone", x.told(3), 15);
        GuestStones y = town();
        build(y, "C0A1");
        due("the least guest", y.key(0), 0);
        due("none falls", y.key(1), 0);
        // A gone or C gone: three fall.
        GuestStones z = thirds();
        due("the least of two", z.key(0), 0);
        due("three", z.key(1), 3);
    }

    static void seen() {
        promise = 23;
        GuestStones x = new GuestStones();
        due("-1", x.seen(-1, 0), UNKNOWN);
        due("6", x.seen(6, 0), UNKNOWN);
        due("UNKNOWN goes first", x.seen(6, 11), UNKNOWN);
        due("high -1", x.seen(0, -1), OUTSIDE);
        due("high 11", x.seen(0, 11), OUTSIDE);
        due("first", x.seen(0, 0), 1);
        due("the same again", x.seen(0, 0), 2);
        due("all are so", x.who(0, 0), 1);
        due("another of it", x.seen(0, 10), 3);
        due("that can not be", x.who(0, 0), 0);
        for (int i = 4; i <= 8; i++) {
            due("more", x.seen(5, 10), i);
        }
        due("the ninth", x.seen(5, 10), FULL);
        due("UNKNOWN goes before FULL", x.seen(6, 10), UNKNOWN);
        due("OUTSIDE goes before FULL", x.seen(5, 11), OUTSIDE);
        due("eight", x.told(4), 8);
    }

    static void forget() {
        promise = 24;
        GuestStones x = new GuestStones();
        due("none", x.forget(), 0);
        x.seen(0, 1);
        x.seen(1, 0);
        due("no rows", x.who(0, 0), 0);
        due("two", x.forget(), 2);
        due("none", x.forget(), 0);
        due("none", x.told(4), 0);
        due("one row", x.who(0, 0), 1);
        x.seen(1, 0);
        due("only the new one", x.who(0, 0), 1);
    }

    static void who() {
        promise = 25;
        GuestStones x = new GuestStones();
        due("m 3", x.who(3, 0), OUTSIDE);
        due("m -1", x.who(-1, 0), OUTSIDE);
        due("what 3", x.who(0, 3), OUTSIDE);
        due("what -1", x.who(0, -1), OUTSIDE);
        due("nobody can", x.who(1, 0), 0);
        due("nobody can", x.who(2, 2), 0);
        x.wall(2);
        x.guest(2, 1, 3, 5);
        x.guest(0, 2, 4, 10);
        due("of nobody", x.who(0, 0), 1);
        due("of nobody", x.who(0, 1), 0);
        due("of nobody", x.who(0, 2), 0);
        due("C0 C1 A0", x.who(1, 0), 3);
        due("A C", x.who(1, 1), 5);
        due("none in all", x.who(1, 2), 0);
        due("C0A0 C1A0 A0C0 A0C1", x.who(2, 0), 4);
        due("A C", x.who(2, 1), 5);
        due("A C", x.who(2, 2), 5);
        x.seen(1, 0);
        due("C0", x.who(1, 0), 1);
        due("C", x.who(1, 1), 4);
        due("C", x.who(1, 2), 4);
        due("no rows", x.who(2, 0), 0);
        due("no rows", x.who(2, 1), 0);
        due("no rows", x.who(2, 2), 0);
        due("nothing is put", x.told(3), 0);
        x.forget();
        // From now on, and by those alone that are not in the WALL.
        build(x, "C0");
        due("A0", x.who(1, 0), 1);
        due("A", x.who(1, 2), 1);
        due("there is no other", x.who(2, 0), 0);
        x.seen(0, 2);
        due("A0", x.who(1, 0), 1);
        x.seen(1, 1);
        due("A lies in row 1", x.who(1, 0), 0);
        GuestStones y = ten();
        due("ten guests, six columns", y.who(1, 0), 60);
        due("two of ten", y.who(2, 0), 3240);
        due("all", y.who(2, 1), 1023);
    }

    static void look() {
        promise = 26;
        GuestStones x = new GuestStones();
        due("m 3", x.look(3, 0), OUTSIDE);
        due("m -1", x.look(-1, 0), OUTSIDE);
        due("what 2", x.look(0, 2), OUTSIDE);
        due("what -1", x.look(0, -1), OUTSIDE);
        due("one row", x.look(0, 0), 0);
        due("one row", x.look(0, 1), 1);
        due("no rows", x.look(1, 0), NONE);
        due("no rows", x.look(1, 1), NONE);
        x.wall(2);
        x.guest(2, 1, 3, 5);
        x.guest(0, 2, 4, 10);
        // C0: 1 0, C1: 0 1, A0: 1 1.
        due("the first of both", x.look(1, 0), 0);
        due("two are left", x.look(1, 1), 2);
        x.seen(0, 1);
        due("the other", x.look(1, 0), 1);
        due("one is left", x.look(1, 1), 1);
        x.seen(1, 0);
        due("all are seen", x.look(1, 0), NONE);
        due("all are seen", x.look(1, 1), NONE);
        x.forget();
        // C0A0 2 2, C1A0 2 2, A0C0 2 1, A0C1 1 2.
        due("of two", x.look(2, 0), 0);
        due("three are left", x.look(2, 1), 3);
        due("nothing is put", x.told(3), 0);
        // A 1 WIDE STONE beside a wide one: COLUMN 0 tells nothing.
        GuestStones y = new GuestStones();
        y.wall(4);
        y.guest(0, 1, 1, 0);
        y.guest(1, 3, 1, 0);
        build(y, "B0");
        due("A3 only", y.look(1, 0), 0);
        due("one", y.look(1, 1), 1);
        y.seen(0, 0);
        due("no rows", y.look(1, 0), NONE);
        // COLUMN 2 alone tells each from each other.
        y = new GuestStones();
        y.wall(4);
        y.guest(0, 2, 1, 50);
        y.guest(1, 2, 1, 0);
        build(y, "A0");
        // B0: 2 2 0 0; B1: 1 2 2 0; B2: 1 1 1 1.
        due("a later column is better", y.look(1, 0), 2);
        due("one is left", y.look(1, 1), 1);
        y = ten();
        due("ten guests, six columns", y.look(1, 0), 0);
        due("five columns are not it", y.look(1, 1), 50);
        y.wall(2);
        for (int g = 0; g < 10; g++) {
            y.guest(g, 1, 1, 200);
        }
        build(y, "A0B0C0D0E0F0G0H0I0");
        // J0: 10 0; J1: 9 1.
        due("ten high", y.look(1, 0), 0);
        due("one is left", y.look(1, 1), 1);
        // J lies on both COLUMNS now: 10 10, and no other.
        y.guest(9, 2, 1, 200);
        due("ten high", y.look(1, 0), 0);
        due("one is left", y.look(1, 1), 1);
    }

    static void weak() {
        promise = 27;
        GuestStones x = new GuestStones();
        due("empty", x.weak(10, 0, 0), 1);
        due("empty", x.weak(10, 0, 1), 1);
        due("empty", x.weak(10, 1, 0), 0);
        due("empty", x.weak(10, 1, 1), 1);
        due("t 11", x.weak(11, 0, 0), LOST - 2);
        due("t -1", x.weak(-1, 0, 0), LOST - 2);
        due("what 2", x.weak(0, 2, 0), LOST - 2);
        due("what -1", x.weak(0, -1, 0), LOST - 2);
        due("part 2", x.weak(0, 0, 2), LOST - 2);
        due("part -1", x.weak(0, 0, -1), LOST - 2);
        // A: 8 of 10, weak 5; B: 12 of 20, weak 10: two that may break. C and D have no LOAD.
        x = overhang();
        due("both hold", x.weak(3, 0, 0), 49);
        due("both hold", x.weak(3, 0, 1), 100);
        due("mean", x.weak(3, 1, 0), 3);
        due("mean", x.weak(3, 1, 1), 5);
        due("never", x.weak(10, 0, 0), 0);
        due("never", x.weak(10, 0, 1), 1);
        due("two", x.weak(10, 1, 0), 2);
        due("two", x.weak(10, 1, 1), 1);
        due("none is weak", x.weak(0, 0, 0), 1);
        due("none is weak", x.weak(0, 0, 1), 1);
        due("none is weak", x.weak(0, 1, 0), 0);
        due("none is weak", x.weak(0, 1, 1), 1);
        // Half of 5 is 2, cut: 2 are borne, 3 are not.
        GuestStones y = new GuestStones();
        y.guest(0, 1, 1, 5);
        y.guest(1, 1, 2, 0);
        build(y, "A0B0");
        due("2 of 5", y.weak(5, 0, 1), 1);
        due("2 of 5", y.weak(5, 1, 0), 0);
        build(y, "B-");
        y.guest(1, 1, 3, 0);
        build(y, "B0");
        due("3 of 5", y.weak(5, 0, 0), 1);
        due("3 of 5", y.weak(5, 0, 1), 2);
        due("3 of 5", y.weak(5, 1, 1), 2);
        // Ten that may break: nine below another.
        GuestStones z = new GuestStones();
        for (int g = 0; g < 10; g++) {
            z.guest(g, 1, 1, 9 - g);
        }
        build(z, "A0B0C0D0E0F0G0H0I0J0");
        due("nine hold", z.weak(1, 0, 0), 387420489L);
        due("nine hold", z.weak(1, 0, 1), 1000000000L);
        due("mean", z.weak(1, 1, 0), 9);
        due("mean", z.weak(1, 1, 1), 10);
    }

    static void year() {
        promise = 28;
        GuestStones x = new GuestStones();
        due("nobody", x.year(0, 99, 0), 0);
        due("nobody", x.year(9999, 1, 1), 0);
        due("nobody", x.year(0, 1, 2), 0);
        due("seed -1", x.year(-1, 1, 0), OUTSIDE);
        due("seed 10000", x.year(10000, 1, 0), OUTSIDE);
        due("m 0", x.year(0, 0, 0), OUTSIDE);
        due("m 100", x.year(0, 100, 0), OUTSIDE);
        due("what 3", x.year(0, 1, 3), OUTSIDE);
        due("what -1", x.year(0, 1, -1), OUTSIDE);
        // 0 becomes 74 (E at 7, left over by 6: 1), 5624 (E), 28652 (C at 3), 51790 (A at 1).
        x.guest(4, 1, 1, 10);
        due("E puts", x.year(0, 1, 0), 1);
        due("E takes none", x.year(0, 1, 1), 0);
        due("one high", x.year(0, 1, 2), 1);
        due("E puts once", x.year(0, 2, 0), 1);
        due("E takes", x.year(0, 2, 1), 1);
        due("it was one high", x.year(0, 2, 2), 1);
        due("nothing is done", x.told(3), 0);
        x.guest(2, 1, 1, 10);
        x.guest(0, 2, 1, 10);
        due("C and A put, too", x.year(0, 4, 0), 3);
        build(x, "A1");
        due("on A", x.year(0, 1, 2), 2);
        due("A is taken out: nothing is on it", x.year(0, 4, 1), 2);
        // From a WALL two high that is one high behind the night: it is not counted.
        GuestStones y = new GuestStones();
        y.guest(0, 1, 1, 10);
        y.guest(4, 1, 1, 10);
        build(y, "A0E0");
        due("E is taken out", y.year(0, 1, 1), 1);
        due("one is left", y.year(0, 1, 2), 1);
        due("stones", y.told(3), 17);
        // 75 times 9999 and 74, left over by 65537: 29092 (C at 2909 by 6: 5).
        GuestStones z = new GuestStones();
        z.guest(2, 1, 1, 1);
        due("the greatest seed", z.year(9999, 1, 0), 1);
        z.guest(2, 2, 1, 1);
        due("it is beyond the last column", z.year(9999, 1, 0), 0);
    }

    static void image() {
        promise = 29;
        GuestStones x = overhang();
        due("2", x.image(2), OUTSIDE);
        due("-1", x.image(-1), OUTSIDE);
        x.seen(3, 3);
        write(x, "D-");
        due("0", x.image(0), 1);
        due("the pad stays", x.told(0), 2);
        due("nothing is changed", x.told(3), 15);
        x.done();
        due("1", x.image(1), 1);
        x.wall(3);
        due("0", x.restore(0), 1);
        due("as it was", x.told(3), 15);
        due("1", x.restore(1), 1);
        due("as it was", x.told(3), 7);
        due("kept anew", x.image(0), 1);
        x.wall(3);
        due("0", x.restore(0), 1);
        due("as it was kept last", x.told(3), 7);
    }

    static void restore() {
        promise = 30;
        GuestStones x = overhang();
        due("2", x.restore(2), OUTSIDE);
        due("-1", x.restore(-1), OUTSIDE);
        due("not kept", x.restore(0), STATE);
        x.seen(3, 3);
        x.image(1);
        due("not kept", x.restore(0), STATE);
        x.forget();
        x.seen(0, 5);
        x.seen(1, 5);
        build(x, "D-C-");
        x.guest(3, 1, 2, 3);
        x.guest(8, 1, 2, 3);
        write(x, "A0B");
        due("kept", x.restore(1), 1);
        due("the pad stays", x.told(0), 3);
        due("columns", x.told(1), 6);
        due("guests", x.told(2), 15);
        due("stones", x.told(3), 15);
        due("sights", x.told(4), 1);
        due("wide", x.told(40), 2);
        due("weight", x.told(41), 8);
        due("bears", x.told(42), 0);
        due("row", x.state(3, 0), 2);
        due("load", x.load(1, 0), 12);
        due("that sight", x.who(0, 0), 1);
        due("gaps", x.gaps(3), 2);
        x.wipe();
        x.wall(4);
        x.guest(0, 1, 1, 1);
        due("kept still", x.restore(1), 1);
        due("columns", x.told(1), 6);
        due("height", x.height(3), 3);
        due("bulges", x.bulges(), 1);
        due("not kept", x.restore(0), STATE);
    }

    static void told() {
        promise = 31;
        GuestStones x = overhang();
        x.guest(9, 1, 20, 200);
        x.seen(0, 0);
        x.say('!');
        due("signs", x.told(0), 1);
        due("columns", x.told(1), 6);
        due("guests", x.told(2), 527);
        due("stones", x.told(3), 15);
        due("sights", x.told(4), 1);
        int[][] stones = {{2, 4, 10}, {3, 6, 20}, {1, 3, 5}, {2, 8, 0}};
        for (int g = 0; g < 4; g++) {
            for (int i = 0; i < 3; i++) {
                due("stone", x.told(10 * (1 + g) + i), stones[g][i]);
            }
            due("no fourth number", x.told(10 * (1 + g) + 3), OUTSIDE);
            due("no tenth number", x.told(10 * (1 + g) + 9), OUTSIDE);
        }
        due("J", x.told(100), 1);
        due("J", x.told(101), 20);
        due("J", x.told(102), 200);
        due("no stone", x.told(50), OUTSIDE);
        for (int what : new int[] {-1, -10, -11, 5, 9, 103, 110, 120, Integer.MAX_VALUE, Integer.MIN_VALUE}) {
            due("told(" + what + ")", x.told(what), OUTSIDE);
        }
    }
}
