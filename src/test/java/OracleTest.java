import java.math.BigInteger;
import java.util.ArrayList;
import java.util.Collections;
import java.util.List;
import java.util.Random;
import java.util.TreeMap;
import java.util.TreeSet;

/**
 * Random runs of calls, each answer against a second program, written from the document's words
 * alone, slowly and otherwise: the WALL a map that is copied, LOAD by recursion from above, no
 * way of a search left out.
 */
public final class OracleTest {
    static final int RUNS = 400;
    static int wrong = 0;

    public static void main(String[] args) {
        int calls = 0;
        for (int run = 0; run < RUNS && wrong < 20; run++) {
            calls += run(run);
        }
        System.out.println("OracleTest: " + RUNS + " runs, " + calls + " calls, " + wrong + " wrong");
        if (wrong != 0) {
            System.exit(1);
        }
    }

    static int run(int seed) {
        Random random = new Random(seed);
        GuestStones real = new GuestStones();
        Model model = new Model();
        int calls = 0;
        int style = seed % 4;
        List<Call> start = new ArrayList<>();
        if (seed % 3 != 0) {
            start.add(new Call("wall", 2 + seed % 8));
        }
        for (int i = 0; i < 16; i++) {
            start.add(someGuest(random, style));
        }
        while (calls < 500) {
            List<Call> plan = calls == 0 && seed % 8 != 7 ? start : plan(random, model, style);
            for (Call call : plan) {
                if (calls >= 512) {
                    break;
                }
                calls++;
                long got = call.on(real);
                long want = call.on(model);
                if (got != want) {
                    wrong++;
                    System.out.println("seed " + seed + " call " + calls + ": " + call + " answered " + got + ", due is " + want);
                    return calls;
                }
            }
        }
        return calls;
    }

    static List<Call> plan(Random r, Model m, int style) {
        List<Call> plan = new ArrayList<>();
        switch (r.nextInt(18)) {
            case 14: case 15: case 16: case 17:
                build(r, m, plan);
                break;
            case 0:
                if (r.nextInt(16) == 0) {
                    plan.add(new Call("wall", r.nextInt(12)));
                }
                if (r.nextInt(24) == 0) {
                    plan.add(new Call("wall", style == 3 ? 9 : 2 + r.nextInt(8)));
                }
                break;
            case 1: case 2: {
                int many = 1 + r.nextInt(3);
                for (int i = 0; i < many; i++) {
                    plan.add(someGuest(r, style));
                }
                break;
            }
            case 3: case 4: case 5: case 6: {
                plan.add(new Call("wipe"));
                int acts = r.nextInt(style == 2 ? 7 : 4);
                for (int i = 0; i < acts; i++) {
                    plan.add(new Call("say", 'A' + r.nextInt(10)));
                    plan.add(new Call("say", r.nextInt(4) == 0 ? '-' : '0' + r.nextInt(m.columns)));
                }
                plan.add(new Call("judge", 0));
                plan.add(new Call("judge", 1));
                if (r.nextBoolean()) {
                    plan.add(new Call("behind", r.nextInt(10), 0));
                    plan.add(new Call("behind", r.nextInt(10), 1));
                    plan.add(new Call("height", r.nextInt(m.columns)));
                }
                if (r.nextInt(4) > 0) {
                    plan.add(new Call("done"));
                }
                break;
            }
            case 7:
                plan.add(new Call("say", r.nextInt(3) == 0 ? 30 + r.nextInt(100) : 'A' + r.nextInt(11)));
                plan.add(new Call("fault"));
                plan.add(new Call("judge", r.nextInt(3)));
                break;
            case 8: {
                plan.add(new Call("wipe"));
                List<Integer> guests = new ArrayList<>();
                for (int g = 0; g < 10; g++) {
                    if (m.stones[g] != null && !m.lies.containsKey(g) || r.nextInt(30) == 0) {
                        guests.add(g);
                    }
                }
                Collections.shuffle(guests, r);
                int acts = Math.min(guests.size(), r.nextInt(8));
                for (int i = 0; i < acts; i++) {
                    plan.add(new Call("say", 'A' + guests.get(r.nextInt(20) == 0 ? 0 : i)));
                    plan.add(new Call("say", r.nextInt(40) == 0 ? '-' : '0' + r.nextInt(m.columns)));
                }
                plan.add(new Call("orders", -1));
                plan.add(new Call("orders", r.nextInt(9) - 2));
                plan.add(new Call("orders", 0));
                break;
            }
            case 9:
                plan.add(new Call("seen", r.nextInt(m.columns + 1) - r.nextInt(2), r.nextInt(style == 0 ? 13 : 3) - r.nextInt(2)));
                if (r.nextInt(3) == 0) {
                    plan.add(new Call("forget"));
                }
                break;
            case 10:
                plan.add(new Call(r.nextInt(3) == 0 ? "restore" : "image", r.nextInt(3)));
                break;
            default:
                question(r, m, plan);
                break;
        }
        return plan;
    }

    /** ACTS that can be, most of them puts, and those the higher ones: walls of many STONES. */
    static void build(Random r, Model m, List<Call> plan) {
        TreeMap<Integer, int[]> w = m.lies;
        plan.add(new Call("wipe"));
        int acts = 1 + r.nextInt(5);
        for (int i = 0; i < acts; i++) {
            int[] best = null;
            int score = -1;
            for (int tries = 0; tries < 12; tries++) {
                int g = r.nextInt(10);
                int column = r.nextInt(9) == 0 ? -1 : r.nextInt(m.columns);
                TreeMap<Integer, int[]> next = Model.wallIn(m.act(w, g, column));
                int value = next == null ? -1 : column < 0 ? r.nextInt(3) : 1 + next.get(g)[0] + r.nextInt(2);
                if (value > score) {
                    score = value;
                    best = new int[] {g, column};
                }
            }
            if (best != null) {
                plan.add(new Call("say", 'A' + best[0]));
                plan.add(new Call("say", best[1] < 0 ? '-' : '0' + best[1]));
                w = Model.wallIn(m.act(w, best[0], best[1]));
            }
        }
        plan.add(new Call("height", r.nextInt(m.columns)));
        plan.add(new Call("behind", r.nextInt(10), r.nextInt(2)));
        plan.add(new Call("done"));
        for (int i = 0; i < 3; i++) {
            question(r, m, plan);
        }
    }

    static Call someGuest(Random r, int style) {
        int bears = style == 1 ? r.nextInt(30) : style == 2 ? 150 + r.nextInt(52) : r.nextInt(100);
        int wide = style == 3 && r.nextInt(3) > 0 ? 1 : 1 + r.nextInt(3) + (r.nextInt(20) == 0 ? 1 : 0);
        return new Call("guest", r.nextInt(10) + (r.nextInt(20) == 0 ? 1 : 0), wide, 1 + r.nextInt(20), bears);
    }

    static void question(Random r, Model m, List<Call> plan) {
        int n = m.columns;
        switch (r.nextInt(14)) {
            case 0:
                for (int g = 0; g < 10; g++) {
                    plan.add(new Call("load", g, r.nextInt(2)));
                    plan.add(new Call("state", g, r.nextInt(2)));
                }
                plan.add(new Call("load", r.nextInt(12) - 1, r.nextInt(4) - 1));
                plan.add(new Call("state", r.nextInt(12) - 1, r.nextInt(4) - 1));
                break;
            case 1:
                plan.add(new Call("strain", 0));
                plan.add(new Call("strain", 1));
                plan.add(new Call("strain", r.nextInt(6) - 2));
                plan.add(new Call("bulges"));
                break;
            case 2:
                for (int i = -2; i < 20; i++) {
                    plan.add(new Call("touch", i));
                }
                break;
            case 3:
                for (int c = -2; c < n + 1; c++) {
                    plan.add(new Call("gaps", c));
                }
                break;
            case 4:
                for (int g = -1; g < 11; g++) {
                    plan.add(new Call("where", g));
                }
                break;
            case 5:
                for (int i = 0; i < 6; i++) {
                    plan.add(new Call("gate", r.nextInt(n + 1), r.nextInt(i < 5 ? 4 : 11), 1 + r.nextInt(i < 5 ? 3 : 4)));
                }
                break;
            case 6:
                plan.add(new Call("high", 0));
                plan.add(new Call("high", 1));
                break;
            case 7:
                for (int i = 0; i < 5; i++) {
                    plan.add(new Call("falls", 1 << r.nextInt(11)));
                    plan.add(new Call("falls", r.nextInt(1030) - 2));
                }
                break;
            case 8:
                plan.add(new Call("key", 0));
                plan.add(new Call("key", 1));
                break;
            case 9: case 10: {
                int most = m.free().size() > 7 ? 1 : 2;
                int count = r.nextInt(most + 1);
                plan.add(new Call("who", count, 0));
                plan.add(new Call("who", count, 1));
                plan.add(new Call("who", count, 2));
                plan.add(new Call("look", count, 0));
                plan.add(new Call("look", count, 1));
                break;
            }
            case 11: {
                int t = r.nextInt(12);
                for (int what = 0; what < 3; what++) {
                    plan.add(new Call("weak", t, what, 0));
                    plan.add(new Call("weak", t, what, 1));
                }
                break;
            }
            case 12: {
                int seed = r.nextInt(10002) - 1;
                int nights = r.nextInt(101);
                for (int what = 0; what < 4; what++) {
                    plan.add(new Call("year", seed, nights, what));
                }
                break;
            }
            default:
                for (int what = -1; what < 6; what++) {
                    plan.add(new Call("told", what));
                }
                for (int i = 0; i < 6; i++) {
                    plan.add(new Call("told", 8 + r.nextInt(110)));
                }
                break;
        }
    }

    static final class Call {
        final String name;
        final int[] a;

        Call(String name, int... a) {
            this.name = name;
            this.a = a;
        }

        public String toString() {
            return name + java.util.Arrays.toString(a);
        }

        long on(GuestStones x) {
            switch (name) {
                case "wall": return x.wall(a[0]);
                case "guest": return x.guest(a[0], a[1], a[2], a[3]);
                case "say": return x.say(a[0]);
                case "wipe": return x.wipe();
                case "fault": return x.fault();
                case "judge": return x.judge(a[0]);
                case "done": return x.done();
                case "state": return x.state(a[0], a[1]);
                case "behind": return x.behind(a[0], a[1]);
                case "height": return x.height(a[0]);
                case "load": return x.load(a[0], a[1]);
                case "strain": return x.strain(a[0]);
                case "bulges": return x.bulges();
                case "touch": return x.touch(a[0]);
                case "gaps": return x.gaps(a[0]);
                case "where": return x.where(a[0]);
                case "gate": return x.gate(a[0], a[1], a[2]);
                case "orders": return x.orders(a[0]);
                case "high": return x.high(a[0]);
                case "falls": return x.falls(a[0]);
                case "key": return x.key(a[0]);
                case "seen": return x.seen(a[0], a[1]);
                case "forget": return x.forget();
                case "who": return x.who(a[0], a[1]);
                case "look": return x.look(a[0], a[1]);
                case "weak": return x.weak(a[0], a[1], a[2]);
                case "year": return x.year(a[0], a[1], a[2]);
                case "image": return x.image(a[0]);
                case "restore": return x.restore(a[0]);
                case "told": return x.told(a[0]);
                default: throw new IllegalStateException(name);
            }
        }

        long on(Model x) {
            switch (name) {
                case "wall": return x.wall(a[0]);
                case "guest": return x.guest(a[0], a[1], a[2], a[3]);
                case "say": return x.say(a[0]);
                case "wipe": return x.wipe();
                case "fault": return x.fault();
                case "judge": return x.judge(a[0]);
                case "done": return x.done();
                case "state": return x.state(a[0], a[1]);
                case "behind": return x.behind(a[0], a[1]);
                case "height": return x.height(a[0]);
                case "load": return x.load(a[0], a[1]);
                case "strain": return x.strain(a[0]);
                case "bulges": return x.bulges();
                case "touch": return x.touch(a[0]);
                case "gaps": return x.gaps(a[0]);
                case "where": return x.where(a[0]);
                case "gate": return x.gate(a[0], a[1], a[2]);
                case "orders": return x.orders(a[0]);
                case "high": return x.high(a[0]);
                case "falls": return x.falls(a[0]);
                case "key": return x.key(a[0]);
                case "seen": return x.seen(a[0], a[1]);
                case "forget": return x.forget();
                case "who": return x.who(a[0], a[1]);
                case "look": return x.look(a[0], a[1]);
                case "weak": return x.weak(a[0], a[1], a[2]);
                case "year": return x.year(a[0], a[1], a[2]);
                case "image": return x.image(a[0]);
                case "restore": return x.restore(a[0]);
                case "told": return x.told(a[0]);
                default: throw new IllegalStateException(name);
            }
        }
    }

    /** A fraction in lowest terms. */
    static final class Part implements Comparable<Part> {
        final BigInteger up, low;

        Part(BigInteger up, BigInteger low) {
            BigInteger by = up.gcd(low);
            this.up = up.divide(by);
            this.low = low.divide(by);
        }

        static Part of(long up, long low) {
            return new Part(BigInteger.valueOf(up), BigInteger.valueOf(low));
        }

        Part plus(Part o) {
            return new Part(up.multiply(o.low).add(o.up.multiply(low)), low.multiply(o.low));
        }

        Part times(long a, long b) {
            return new Part(up.multiply(BigInteger.valueOf(a)), low.multiply(BigInteger.valueOf(b)));
        }

        public int compareTo(Part o) {
            return up.multiply(o.low).compareTo(o.up.multiply(low));
        }

        long part(int part) {
            return (part == 0 ? up : low).longValueExact();
        }
    }

    static final class Model {
        static final int NONE = -6, UNKNOWN = -1, OUTSIDE = -2, STATE = -3, FULL = -4, NO = -5;
        static final long LOST = -1000000000000000000L;
        int columns = 6;
        /** Of each GUEST wide, weight, bears. */
        int[][] stones = new int[10][];
        /** Of each GUEST whose STONE is in the WALL its row and COLUMN. */
        TreeMap<Integer, int[]> lies = new TreeMap<>();
        List<int[]> sights = new ArrayList<>();
        String pad = "";
        Object[][] images = new Object[2][];

        static boolean out(int x, int from, int to) {
            return !(from <= x && x <= to);
        }

        // ---- the wall, as a map

        static boolean covers(int[][] stones, int g, int[] place, int row, int column) {
            return place[0] == row && place[1] <= column && column < place[1] + stones[g][0];
        }

        Integer at(TreeMap<Integer, int[]> w, int row, int column) {
            for (int g : w.keySet()) {
                if (covers(stones, g, w.get(g), row, column)) {
                    return g;
                }
            }
            return null;
        }

        int heightOf(TreeMap<Integer, int[]> w, int column) {
            int high = 0;
            for (int row = 0; row < 12; row++) {
                if (at(w, row, column) != null) {
                    high = row + 1;
                }
            }
            return high;
        }

        int highest(TreeMap<Integer, int[]> w) {
            int high = 0;
            for (int c = 0; c < columns; c++) {
                high = Math.max(high, heightOf(w, c));
            }
            return high;
        }

        int held(TreeMap<Integer, int[]> w, int g) {
            int[] p = w.get(g);
            int held = 0;
            for (int c = p[1]; c < p[1] + stones[g][0]; c++) {
                if (p[0] == 0 || at(w, p[0] - 1, c) != null) {
                    held++;
                }
            }
            return held;
        }

        boolean stands(TreeMap<Integer, int[]> w, int g) {
            return held(w, g) * 2 >= stones[g][0];
        }

        Part loadOn(TreeMap<Integer, int[]> w, int g) {
            Part sum = Part.of(0, 1);
            int[] p = w.get(g);
            for (int c = p[1]; c < p[1] + stones[g][0]; c++) {
                Integer above = at(w, p[0] + 1, c);
                if (above != null) {
                    sum = sum.plus(loadOn(w, above).plus(Part.of(stones[above][1], 1)).times(1, held(w, above)));
                }
            }
            return sum;
        }

        boolean tooHeavy(TreeMap<Integer, int[]> w, int g) {
            return loadOn(w, g).compareTo(Part.of(stones[g][2], 1)) > 0;
        }

        Part strainOf(TreeMap<Integer, int[]> w) {
            Part most = Part.of(0, 1);
            for (int g : w.keySet()) {
                if (stones[g][2] > 0) {
                    Part s = loadOn(w, g).times(1, stones[g][2]);
                    if (s.compareTo(most) > 0) {
                        most = s;
                    }
                }
            }
            return most;
        }

        /** The WALL behind the ACT, or why it can not be. */
        Object act(TreeMap<Integer, int[]> w, int g, int column) {
            TreeMap<Integer, int[]> next = new TreeMap<>(w);
            if (column < 0) {
                if (!w.containsKey(g)) {
                    return 1;
                }
                int[] p = w.get(g);
                for (int c = p[1]; c < p[1] + stones[g][0]; c++) {
                    if (at(w, p[0] + 1, c) != null) {
                        return 5;
                    }
                }
                next.remove(g);
                return next;
            }
            if (stones[g] == null || w.containsKey(g)) {
                return 1;
            }
            if (column + stones[g][0] - 1 > columns - 1) {
                return 2;
            }
            int row = 0;
            for (int c = column; c < column + stones[g][0]; c++) {
                row = Math.max(row, heightOf(w, c));
            }
            next.put(g, new int[] {row, column});
            if (!stands(next, g)) {
                return 3;
            }
            for (int other : next.keySet()) {
                if (tooHeavy(next, other)) {
                    return 4;
                }
            }
            return next;
        }

        @SuppressWarnings("unchecked")
        static TreeMap<Integer, int[]> wallIn(Object answer) {
            return answer instanceof TreeMap ? (TreeMap<Integer, int[]>) answer : null;
        }

        TreeSet<Integer> free() {
            return free(lies);
        }

        TreeSet<Integer> free(TreeMap<Integer, int[]> w) {
            TreeSet<Integer> free = new TreeSet<>();
            for (int g = 0; g < 10; g++) {
                if (stones[g] != null && !w.containsKey(g)) {
                    free.add(g);
                }
            }
            return free;
        }

        // ---- the face

        int wall(int n) {
            if (out(n, 2, 9)) {
                return OUTSIDE;
            }
            int was = columns;
            columns = n;
            stones = new int[10][];
            lies = new TreeMap<>();
            sights = new ArrayList<>();
            return was;
        }

        int guest(int g, int wide, int weight, int bears) {
            if (out(g, 0, 9)) {
                return UNKNOWN;
            }
            if (out(wide, 1, 3) || out(weight, 1, 20) || out(bears, 0, 200)) {
                return OUTSIDE;
            }
            if (lies.containsKey(g)) {
                return STATE;
            }
            stones = stones.clone();
            stones[g] = new int[] {wide, weight, bears};
            return (int) java.util.Arrays.stream(stones).filter(s -> s != null).count();
        }

        int say(int sign) {
            if (out(sign, 33, 126)) {
                return OUTSIDE;
            }
            if (pad.length() == 60) {
                return FULL;
            }
            pad += (char) sign;
            return pad.length();
        }

        int wipe() {
            int n = pad.length();
            pad = "";
            return n;
        }

        int fault() {
            String letters = "ABCDEFGHIJ";
            String marks = "-" + "0123456789".substring(0, columns);
            for (int i = 0; i < pad.length(); i++) {
                if ((i % 2 == 0 ? letters : marks).indexOf(pad.charAt(i)) < 0) {
                    return i;
                }
            }
            return pad.length() % 2 == 0 ? NONE : pad.length();
        }

        /** The WALL behind the PAD, or the first ACT and why. */
        Object padDone() {
            TreeMap<Integer, int[]> w = lies;
            for (int i = 0; i < pad.length() / 2; i++) {
                char mark = pad.charAt(2 * i + 1);
                Object next = act(w, pad.charAt(2 * i) - 65, mark == '-' ? -1 : mark - 48);
                if (wallIn(next) == null) {
                    return new int[] {i, (Integer) next};
                }
                w = wallIn(next);
            }
            return w;
        }

        int judge(int what) {
            if (out(what, 0, 1)) {
                return OUTSIDE;
            }
            if (fault() != NONE) {
                return NO;
            }
            Object end = padDone();
            return wallIn(end) != null ? NONE : ((int[]) end)[what];
        }

        TreeMap<Integer, int[]> later() {
            return fault() != NONE ? null : wallIn(padDone());
        }

        int done() {
            if (later() == null) {
                return NO;
            }
            lies = later();
            return wipe() / 2;
        }

        int state(int g, int what) {
            if (out(g, 0, 9)) {
                return UNKNOWN;
            }
            if (out(what, 0, 1)) {
                return OUTSIDE;
            }
            return lies.containsKey(g) ? lies.get(g)[what] : NONE;
        }

        int behind(int g, int what) {
            if (out(g, 0, 9)) {
                return UNKNOWN;
            }
            if (out(what, 0, 1)) {
                return OUTSIDE;
            }
            if (later() == null) {
                return NO;
            }
            return later().containsKey(g) ? later().get(g)[what] : NONE;
        }

        int height(int c) {
            if (out(c, 0, columns - 1)) {
                return UNKNOWN;
            }
            return later() == null ? NO : heightOf(later(), c);
        }

        long load(int g, int part) {
            if (out(g, 0, 9)) {
                return LOST - 1;
            }
            if (out(part, 0, 1)) {
                return LOST - 2;
            }
            return lies.containsKey(g) ? loadOn(lies, g).part(part) : LOST - 3;
        }

        long strain(int part) {
            return out(part, 0, 1) ? LOST - 2 : strainOf(lies).part(part);
        }

        int bulges() {
            int bits = 0;
            for (int g : lies.keySet()) {
                if (loadOn(lies, g).compareTo(Part.of(3L * stones[g][2], 4)) > 0) {
                    bits += 1 << g;
                }
            }
            return bits;
        }

        int touch(int i) {
            TreeSet<Integer> twos = new TreeSet<>();
            for (int row = 0; row < 12; row++) {
                for (int c = 0; c < columns; c++) {
                    Integer here = at(lies, row, c);
                    for (Integer there : new Integer[] {at(lies, row, c + 1), at(lies, row + 1, c)}) {
                        if (here != null && there != null && !here.equals(there)) {
                            twos.add(10 * Math.min(here, there) + Math.max(here, there));
                        }
                    }
                }
            }
            if (i == -1) {
                return twos.size();
            }
            return out(i, 0, twos.size() - 1) ? NONE : new ArrayList<>(twos).get(i);
        }

        int gaps(int column) {
            if (out(column, -1, columns - 1)) {
                return UNKNOWN;
            }
            int gaps = 0;
            for (int c = 0; c < columns; c++) {
                for (int row = 0; row < heightOf(lies, c); row++) {
                    if ((column < 0 || column == c) && at(lies, row, c) == null) {
                        gaps++;
                    }
                }
            }
            return gaps;
        }

        int where(int g) {
            if (out(g, 0, 9)) {
                return UNKNOWN;
            }
            if (!free().contains(g)) {
                return STATE;
            }
            int best = NONE;
            Part least = null;
            for (int c = 0; c < columns; c++) {
                TreeMap<Integer, int[]> w = wallIn(act(lies, g, c));
                if (w != null && (least == null || strainOf(w).compareTo(least) < 0)) {
                    best = c;
                    least = strainOf(w);
                }
            }
            return best;
        }

        int gate(int c, int row, int wide) {
            if (out(c, 0, columns - 1)) {
                return UNKNOWN;
            }
            if (out(row, 0, 9) || out(wide, 1, 3)) {
                return OUTSIDE;
            }
            int bits = 0;
            for (int g : free()) {
                TreeMap<Integer, int[]> w = wallIn(act(lies, g, c));
                if (w != null && stones[g][0] == wide && w.get(g)[0] == row) {
                    bits |= 1 << g;
                }
            }
            return bits;
        }

        int orders(int place) {
            if (fault() != NONE) {
                return NO;
            }
            TreeMap<Integer, Integer> puts = new TreeMap<>();
            for (int i = 0; i < pad.length(); i += 2) {
                if (pad.charAt(i + 1) == '-' || puts.put(pad.charAt(i) - 65, pad.charAt(i + 1) - 48) != null) {
                    return NO;
                }
            }
            if (puts.size() > 6) {
                return FULL;
            }
            List<List<Integer>> all = new ArrayList<>();
            permutations(new ArrayList<>(), puts, all);
            int count = 0;
            List<Integer> first = null;
            for (List<Integer> order : all) {
                TreeMap<Integer, int[]> w = lies;
                for (int g : order) {
                    w = w == null ? null : wallIn(act(w, g, puts.get(g)));
                }
                if (w != null) {
                    count++;
                    first = first == null ? order : first;
                }
            }
            if (place == -1) {
                return count;
            }
            return first == null || out(place, 0, first.size() - 1) ? NONE : first.get(place);
        }

        void permutations(List<Integer> begun, TreeMap<Integer, Integer> puts, List<List<Integer>> all) {
            if (begun.size() == puts.size()) {
                all.add(begun);
                return;
            }
            for (int g : puts.keySet()) {
                if (!begun.contains(g)) {
                    List<Integer> more = new ArrayList<>(begun);
                    more.add(g);
                    permutations(more, puts, all);
                }
            }
        }

        /** Every WALL by m GUESTS more, with the GUESTS as bits. */
        List<Object[]> walls(int m) {
            List<Object[]> now = new ArrayList<>();
            now.add(new Object[] {lies, 0});
            for (int i = 0; i < m; i++) {
                List<Object[]> next = new ArrayList<>();
                for (Object[] one : now) {
                    for (int g : free(wallIn(one[0]))) {
                        for (int c = 0; c < columns; c++) {
                            Object w = act(wallIn(one[0]), g, c);
                            if (wallIn(w) != null) {
                                next.add(new Object[] {w, (Integer) one[1] | 1 << g});
                            }
                        }
                    }
                }
                now = next;
            }
            return now;
        }

        int high(int what) {
            if (out(what, 0, 1)) {
                return OUTSIDE;
            }
            if (free().size() > 3) {
                return FULL;
            }
            int best = -1;
            int fewest = 0;
            for (int m = 0; m <= free().size(); m++) {
                for (Object[] one : walls(m)) {
                    if (highest(wallIn(one[0])) > best) {
                        best = highest(wallIn(one[0]));
                        fewest = m;
                    }
                }
            }
            return what == 0 ? best : fewest;
        }

        int falls(int set) {
            if (out(set, 0, 1023)) {
                return OUTSIDE;
            }
            TreeMap<Integer, int[]> w = new TreeMap<>(lies);
            for (int g = 0; g < 10; g++) {
                if ((set & 1 << g) != 0) {
                    w.remove(g);
                }
            }
            int bits = 0;
            while (true) {
                List<Integer> falling = new ArrayList<>();
                for (int g : w.keySet()) {
                    if (!stands(w, g) || tooHeavy(w, g)) {
                        falling.add(g);
                    }
                }
                if (falling.isEmpty()) {
                    return bits;
                }
                for (int g : falling) {
                    w.remove(g);
                    bits |= 1 << g;
                }
            }
        }

        int key(int what) {
            if (out(what, 0, 1)) {
                return OUTSIDE;
            }
            int[] best = {NONE, NONE};
            for (int g : lies.descendingKeySet()) {
                int fall = Integer.bitCount(falls(1 << g));
                if (fall >= best[1]) {
                    best = new int[] {g, fall};
                }
            }
            return best[what];
        }

        int seen(int c, int high) {
            if (out(c, 0, columns - 1)) {
                return UNKNOWN;
            }
            if (out(high, 0, 10)) {
                return OUTSIDE;
            }
            if (sights.size() == 8) {
                return FULL;
            }
            sights = new ArrayList<>(sights);
            sights.add(new int[] {c, high});
            return sights.size();
        }

        int forget() {
            int n = sights.size();
            sights = new ArrayList<>();
            return n;
        }

        List<Object[]> fitting(int m) {
            List<Object[]> fit = new ArrayList<>();
            for (Object[] one : walls(m)) {
                boolean so = true;
                for (int[] s : sights) {
                    so &= heightOf(wallIn(one[0]), s[0]) == s[1];
                }
                if (so) {
                    fit.add(one);
                }
            }
            return fit;
        }

        int who(int m, int what) {
            if (out(m, 0, 2) || out(what, 0, 2)) {
                return OUTSIDE;
            }
            List<Object[]> fit = fitting(m);
            int some = 0;
            int all = fit.isEmpty() ? 0 : 1023;
            for (Object[] one : fit) {
                some |= (Integer) one[1];
                all &= (Integer) one[1];
            }
            return new int[] {fit.size(), some, all}[what];
        }

        int look(int m, int what) {
            if (out(m, 0, 2) || out(what, 0, 1)) {
                return OUTSIDE;
            }
            List<Object[]> fit = fitting(m);
            int[] best = {NONE, NONE};
            for (int c = 0; c < columns && !fit.isEmpty(); c++) {
                int column = c;
                if (sights.stream().noneMatch(s -> s[0] == column)) {
                    TreeMap<Integer, Integer> left = new TreeMap<>();
                    for (Object[] one : fit) {
                        left.merge(heightOf(wallIn(one[0]), c), 1, Integer::sum);
                    }
                    int most = Collections.max(left.values());
                    if (best[0] == NONE || most < best[1]) {
                        best = new int[] {c, most};
                    }
                }
            }
            return best[what];
        }

        long weak(int t, int what, int part) {
            if (out(t, 0, 10) || out(what, 0, 1) || out(part, 0, 1)) {
                return LOST - 2;
            }
            // Every choice of weak STONES, with how likely it is.
            Part none = Part.of(0, 1);
            Part mean = Part.of(0, 1);
            List<Integer> in = new ArrayList<>(lies.keySet());
            boolean[] breaks = new boolean[in.size()];
            for (int i = 0; i < in.size(); i++) {
                breaks[i] = loadOn(lies, in.get(i)).compareTo(Part.of(stones[in.get(i)][2] / 2, 1)) > 0;
            }
            for (int set = 0; set < 1 << in.size(); set++) {
                long up = 1;
                long low = 1;
                int broken = 0;
                for (int i = 0; i < in.size(); i++) {
                    boolean isWeak = (set & 1 << i) != 0;
                    up *= isWeak ? t : 10 - t;
                    low *= 10;
                    broken += isWeak && breaks[i] ? 1 : 0;
                }
                none = broken == 0 ? none.plus(Part.of(up, low)) : none;
                mean = mean.plus(Part.of(up, low).times(broken, 1));
            }
            return (what == 0 ? none : mean).part(part);
        }

        int year(int seed, int m, int what) {
            if (out(seed, 0, 9999) || out(m, 1, 99) || out(what, 0, 2)) {
                return OUTSIDE;
            }
            int[] answer = new int[3];
            TreeMap<Integer, int[]> w = lies;
            long x = seed;
            for (int night = 1; night <= m; night++) {
                x = (75 * x + 74) % 65537;
                TreeMap<Integer, int[]> put = wallIn(act(w, (int) (x % 10), (int) (x / 10 % columns)));
                TreeMap<Integer, int[]> taken = wallIn(act(w, (int) (x % 10), -1));
                if (put != null) {
                    answer[0]++;
                    w = put;
                } else if (taken != null) {
                    answer[1]++;
                    w = taken;
                }
                answer[2] = Math.max(answer[2], highest(w));
            }
            return answer[what];
        }

        int image(int n) {
            if (out(n, 0, 1)) {
                return OUTSIDE;
            }
            images[n] = new Object[] {columns, stones, lies, sights};
            return 1;
        }

        @SuppressWarnings("unchecked")
        int restore(int n) {
            if (out(n, 0, 1)) {
                return OUTSIDE;
            }
            if (images[n] == null) {
                return STATE;
            }
            columns = (Integer) images[n][0];
            stones = (int[][]) images[n][1];
            lies = (TreeMap<Integer, int[]>) images[n][2];
            sights = (List<int[]>) images[n][3];
            return 1;
        }

        int told(int what) {
            if (what == 0) {
                return pad.length();
            }
            if (what == 1) {
                return columns;
            }
            if (what == 2) {
                int bits = 0;
                for (int g = 0; g < 10; g++) {
                    bits |= stones[g] != null ? 1 << g : 0;
                }
                return bits;
            }
            if (what == 3) {
                int bits = 0;
                for (int g : lies.keySet()) {
                    bits |= 1 << g;
                }
                return bits;
            }
            if (what == 4) {
                return sights.size();
            }
            for (int g = 0; g < 10; g++) {
                for (int i = 0; i < 3; i++) {
                    if (what == 10 * (1 + g) + i && stones[g] != null) {
                        return stones[g][i];
                    }
                }
            }
            return OUTSIDE;
        }
    }
}
