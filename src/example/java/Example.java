/** A year in the hill town: stones put in the wall, and what the wall tells. */
public final class Example {
    private static final int A = 0, B = 1, C = 2, D = 3;

    public static void main(String[] args) {
        GuestStones x = new GuestStones();
        x.guest(A, 2, 5, 10);
        x.guest(B, 1, 3, 20);
        x.guest(C, 1, 4, 20);
        tell("guest(D, 3, 8, 0)", x.guest(D, 3, 8, 0), "GUESTS have a STONE; D's is 3 WIDE, WEIGHT 8, BEARS 0");

        write(x, "B0C1A0");
        tell("fault()", x.fault(), "NONE: the text B0C1A0 is as it should be");
        tell("judge(0)", x.judge(0), "NONE: every ACT can be");
        tell("height(1)", x.height(1), "is how high COLUMN 1 is behind them");
        tell("state(A, 0)", x.state(A, 0), "NONE: A's STONE is not yet in the WALL");
        tell("done()", x.done(), "ACTS are done");
        tell("state(A, 0)", x.state(A, 0), "is A's row: his STONE lies on those of B and C");

        tell("load(B, 0)", x.load(B, 0), "is the upper number of B's LOAD");
        tell("load(B, 1)", x.load(B, 1), "is the lower: half of A's WEIGHT of 5 is on B");
        tell("touch(-1)", x.touch(-1), "twos of STONES touch");
        tell("touch(0)", x.touch(0), "is the first of them: GUESTS 0 and 1");
        tell("falls(6)", x.falls(1 << B | 1 << C), "as bits falls, if B's and C's STONES go: A's");

        write(x, "B-");
        tell("judge(0)", x.judge(0), "is the first ACT that can not be");
        tell("judge(1)", x.judge(1), "is why: a STONE is on B's");
        tell("done()", x.done(), "NO: the PAD stays as it is");

        tell("state(10, 0)", x.state(10, 0), "UNKNOWN: there is no GUEST 10");
        tell("guest(D, 4, 8, 0)", x.guest(D, 4, 8, 0), "OUTSIDE: a STONE is 1 to 3 WIDE");
        tell("guest(A, 1, 1, 1)", x.guest(A, 1, 1, 1), "STATE: A's STONE is in the WALL");
        tell("load(D, 0)", x.load(D, 0), "LOST and STATE: D's is not");

        tell("where(D)", x.where(D), "is the COLUMN at which D strains the WALL least");
        tell("image(0)", x.image(0), "for an IMAGE that is kept");
        tell("seen(3, 1)", x.seen(3, 1), "SIGHT: COLUMN 3 was 1 HIGH");
        tell("who(1, 0)", x.who(1, 0), "rows of one GUEST by which it can be so");
        tell("who(1, 1)", x.who(1, 1), "as bits are those GUESTS: D");
        tell("weak(5, 0, 0)", x.weak(5, 0, 0), "is the upper number of how likely it is that all bear");
        tell("year(7, 99, 0)", x.year(7, 99, 0), "STONES are put in a YEAR of 99 nights");
        tell("restore(0)", x.restore(0), "for all as it was when the IMAGE was kept");
        tell("told(4)", x.told(4), "SIGHTS there were then");
    }

    /** Signs go on the PAD one by one, behind those that are there. */
    private static void write(GuestStones x, String years) {
        x.wipe();
        for (char sign : years.toCharArray()) {
            x.say(sign);
        }
    }

    private static void tell(String call, long answer, String meaning) {
        System.out.println(call + ": " + answer + " " + meaning);
    }
}
