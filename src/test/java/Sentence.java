import java.io.IOException;
import java.lang.reflect.InvocationTargetException;
import java.lang.reflect.Method;
import java.lang.reflect.Modifier;
import java.nio.file.Path;
import java.util.ArrayList;
import java.util.Arrays;
import java.util.Comparator;
import java.util.List;
import java.util.function.IntToLongFunction;

/**
 * What the tests of the document's sentences share. Each test is a method of its own: it names the
 * promise and the sentence first, and an answer that is not the one due is told with both.
 */
abstract class Sentence {
    static final int NONE = -6, UNKNOWN = -1, OUTSIDE = -2, STATE = -3, FULL = -4, NO = -5;
    static final long LOST = -1000000000000000000L;
    static final int LEAST = Integer.MIN_VALUE, GREATEST = Integer.MAX_VALUE;

    private static Document document;
    private static int wrong = 0;
    private static int tests = 0;
    private static int answers = 0;
    private static int promise;
    private static String sentence;
    private static int asked;

    // ---- the tests, and what they have to say

    /** Every test begins with this. */
    static void of(int itsPromise, String itsSentence) {
        if (sentence != null) {
            tell("is no test of its own: it names another sentence too: " + itsSentence);
        }
        promise = itsPromise;
        sentence = itsSentence;
        if (!document.names(promise, sentence)) {
            tell("does not stand in the document");
        }
    }

    static void due(String call, long got, long want) {
        asked++;
        if (got != want) {
            tell(call + " answered " + got + ", due is " + want);
        }
    }

    private static void tell(String what) {
        wrong++;
        System.out.println("promise " + promise + ", \"" + sentence + "\": " + what);
    }

    /** Runs every test of every part; what no test names of the document is wrong, too. */
    static int runAll(Path file, Class<?>... parts) throws IOException, IllegalAccessException {
        document = new Document(file);
        for (Class<?> part : parts) {
            Method[] all = part.getDeclaredMethods();
            Arrays.sort(all, Comparator.comparing(Method::getName));
            for (Method one : all) {
                boolean isTest = one.getParameterCount() == 0 && one.getReturnType() == void.class
                        && Modifier.isStatic(one.getModifiers()) && !one.isSynthetic();
                if (isTest) {
                    runOne(one);
                }
            }
        }
        for (String left : document.unnamed()) {
            wrong++;
            System.out.println("no test names this: " + left);
        }
        System.out.println("SentencesTest: " + tests + " tests, " + answers + " answers, " + wrong + " wrong");
        return wrong;
    }

    private static void runOne(Method test) throws IllegalAccessException {
        promise = 0;
        sentence = null;
        asked = 0;
        tests++;
        try {
            test.invoke(null);
        } catch (InvocationTargetException e) {
            tell(test.getName() + " threw " + e.getCause());
        }
        if (sentence == null || asked == 0) {
            tell(test.getName() + " names no sentence or asks nothing");
        }
        answers += asked;
    }

    // ---- walls to ask

    /** A new object, and STONES for A, B, C and so on: of each WIDE, WEIGHT, BEARS. */
    static GuestStones stones(int... numbers) {
        return giving(new GuestStones(), numbers);
    }

    /** As stones(), in a WALL of so many COLUMNS. */
    static GuestStones walled(int columns, int... numbers) {
        GuestStones x = new GuestStones();
        x.wall(columns);
        return giving(x, numbers);
    }

    static GuestStones giving(GuestStones x, int... numbers) {
        for (int i = 0; i + 2 < numbers.length; i += 3) {
            due("guest " + i / 3, x.guest(i / 3, numbers[i], numbers[i + 1], numbers[i + 2]), i / 3 + 1);
        }
        return x;
    }

    /** A 2 WIDE, B 3 WIDE, C 1 WIDE, D 2 WIDE that BEARS 0. */
    static GuestStones town() {
        return stones(2, 4, 10, 3, 6, 20, 1, 3, 5, 2, 8, 0);
    }

    /** B in row 0 from COLUMN 0, A on it at 1, D on A at 2, beyond an empty COLUMN 3, C apart. */
    static GuestStones overhang() {
        GuestStones x = town();
        build(x, "B0A1C4D2");
        return x;
    }

    /** Ten STONES, 1 WIDE, of WEIGHT 1, that BEAR 200, in a WALL of so many COLUMNS. */
    static GuestStones ten(int columns) {
        GuestStones x = new GuestStones();
        x.wall(columns);
        for (int g = 0; g < 10; g++) {
            due("guest " + g, x.guest(g, 1, 1, 200), g + 1);
        }
        return x;
    }

    /** Those ten in COLUMN 0, A the lowest. */
    static GuestStones tower(int columns) {
        GuestStones x = ten(columns);
        build(x, "A0B0C0D0E0F0G0H0I0J0");
        return x;
    }

    /** The PAD is wiped and holds this text. */
    static void write(GuestStones x, String text) {
        x.wipe();
        for (int i = 0; i < text.length(); i++) {
            due("say " + (i + 1) + " of " + text, x.say(text.charAt(i)), i + 1);
        }
    }

    static void build(GuestStones x, String years) {
        write(x, years);
        due("done of " + years, x.done(), years.length() / 2);
    }

    static String times(int count, String text) {
        return String.valueOf(text).repeat(count);
    }

    // ---- answers to compare

    static void judged(GuestStones x, String years, int act, int why) {
        write(x, years);
        due("judge(0) of " + years, x.judge(0), act);
        due("judge(1) of " + years, x.judge(1), why);
    }

    /** All of the text can be. */
    static void fits(GuestStones x, String years) {
        judged(x, years, NONE, NONE);
    }

    static void faulty(GuestStones x, String text, int place) {
        write(x, text);
        due("fault of " + text, x.fault(), place);
    }

    static void heights(GuestStones x, int... wanted) {
        for (int c = 0; c < wanted.length; c++) {
            due("height(" + c + ")", x.height(c), wanted[c]);
        }
    }

    static void lies(GuestStones x, int guest, int row, int column) {
        due("state(" + guest + ", 0)", x.state(guest, 0), row);
        due("state(" + guest + ", 1)", x.state(guest, 1), column);
    }

    static void loaded(GuestStones x, int guest, long upper, long lower) {
        due("load(" + guest + ", 0)", x.load(guest, 0), upper);
        due("load(" + guest + ", 1)", x.load(guest, 1), lower);
    }

    static void strained(GuestStones x, long upper, long lower) {
        due("strain(0)", x.strain(0), upper);
        due("strain(1)", x.strain(1), lower);
    }

    /** Numbers just outside of least to most, and far outside. */
    static int[] beyond(int least, int most) {
        return new int[] {least - 1, most + 1, least - 2, most + 2, -1000000, 1000000, LEAST, LEAST + 1, GREATEST - 1, GREATEST};
    }

    /** The call is refused for every number that is not least to most. */
    static void refusedBeyond(String call, IntToLongFunction ask, int least, int most, long refusal) {
        for (int n : beyond(least, most)) {
            due(call + " of " + n, ask.applyAsLong(n), refusal);
        }
    }

    // ---- all that later calls show

    /** What there is now, by questions alone; an object has calls enough for two of them. */
    static List<Long> shown(GuestStones x) {
        List<Long> all = new ArrayList<>();
        for (int what = 0; what < 5; what++) {
            all.add((long) x.told(what));
        }
        for (int g = 0; g < 10; g++) {
            for (int i = 0; i < 3; i++) {
                all.add((long) x.told(10 + 10 * g + i));
            }
            all.add((long) x.state(g, 0));
            all.add((long) x.state(g, 1));
            all.add((long) x.behind(g, 1));
            all.add(x.load(g, 0));
        }
        for (int c = 0; c < x.told(1); c++) {
            all.add((long) x.height(c));
        }
        all.add((long) x.gaps(-1));
        all.add((long) x.touch(-1));
        all.add(x.strain(0));
        all.add((long) x.bulges());
        all.add((long) x.fault());
        all.add((long) x.judge(0));
        all.add((long) x.judge(1));
        for (int place = -1; place < 6; place++) {
            all.add((long) x.orders(place));
        }
        for (int m = 0; m < 2; m++) {
            all.add((long) x.who(m, 0));
            all.add((long) x.who(m, 1));
            all.add((long) x.look(m, 0));
        }
        return all;
    }
}
