import java.lang.reflect.Method;
import java.util.ArrayList;
import java.util.List;
import java.util.Map;
import java.util.Random;
import java.util.TreeMap;

/** Long runs of drawn calls, answered by PieceMirror and by SlowMirror alike. The draws are the same each time. */
public final class ModelTest {
    /**
     * Each call with the kinds of its arguments: p piece, h piece as hole, e eye, g leg, r pair, b boolean, c point, s price,
     * d drift, m reading, i index, w what, L lift, N lean, o low, u high, t length, W wave, R rest, a reach, f form, v flaw,
     * x weight, y age, q loss, Y years, k point of light, z square.
     */
    private static final String[] CALLS = {
        "piece", "put pb", "wish pLNN", "about pw", "eye ppccs", "blind eb", "drift ed", "tells e", "moves b", "unseen", "needed e",
        "cheapest", "keep i", "sure ppcc", "without p", "read em", "readAll", "agree", "liars", "liar i", "leg pccou", "stick gt",
        "bars p", "set p", "pair ppWR", "drop r", "reach a", "ways", "lift p", "quarrel", "flaw pfv", "weigh hfx", "costs ph", "swap",
        "hole p", "age py", "loss q", "plan Y", "coat Yi", "light kkz", "focus zw", "count w"};
    private static final int NONE = -900009;

    private static final Map<String, Method> FAST = new TreeMap<>();
    private static final Map<String, Method> SLOW = new TreeMap<>();
    private static int passed = 0, failed = 0;

    private final Random random;
    private final int wide;
    private final SlowMirror slow = new SlowMirror();
    private final PieceMirror fast = new PieceMirror();
    private int wave = 2;

    private ModelTest(long seed) {
        random = new Random(seed);
        wide = new int[] {1, 2, 9}[random.nextInt(3)];
    }

    private int from(int low, int high) {
        return low + random.nextInt(high - low + 1);
    }

    private int index(int size) {
        return size == 0 || random.nextInt(40) == 0 ? from(-1, size) : random.nextInt(size);
    }

    private int wrongNow(int low, int high) {
        int[] some = {low - 1, high + 1, Integer.MIN_VALUE, Integer.MAX_VALUE, NONE, NONE + 1, 1 << 20};
        return some[random.nextInt(some.length)];
    }

    private int drawn(int low, int high) {
        if (random.nextInt(60) == 0) return wrongNow(low, high);
        return random.nextInt(8) == 0 ? (random.nextBoolean() ? low : high) : from(low, high);
    }

    private int reading(int eye) {
        int draw = random.nextInt(10);
        if (draw == 0) return NONE;
        if (draw < 3 || eye < 0 || eye >= slow.eyes.size()) return drawn(-9999, 9999);
        return slow.told(slow.eyes.get(eye)) + (draw < 5 ? from(-1, 1) : 0);
    }

    private int length(int leg) {
        if (random.nextInt(3) == 0) return NONE;
        if (leg < 0 || leg >= slow.legs.size()) return 0;
        int[] l = slow.legs.get(leg);
        if (random.nextInt(3) == 0) return drawn(l[3], l[4]);
        return SlowMirror.height(slow.pieces.get(l[0]).wish, l[1], l[2]);
    }

    private Object argument(char kind, int before) {
        switch (kind) {
            case 'p': case 'h': return index(slow.pieces.size());
            case 'e': return index(slow.eyes.size());
            case 'g': return index(slow.legs.size());
            case 'r': return index(slow.pairs.size());
            case 'b': return random.nextInt(3) > 0;
            case 'c': return drawn(-wide, wide);
            case 's': return wide == 9 ? drawn(1, 99) : drawn(1, 5);
            case 'd': return drawn(-99, 99);
            case 'm': return reading(before);
            case 'i': return from(-1, 5);
            case 'w': return from(-1, 7);
            case 'L': return wide == 9 ? drawn(-99, 99) : drawn(-3, 3);
            case 'N': return wide == 9 ? drawn(-9, 9) : drawn(-2, 2);
            case 'o': return random.nextBoolean() ? drawn(-20, 5) : drawn(-999, 999);
            case 'u': return random.nextBoolean() ? drawn(before, before + 60) : drawn(-999, 999);
            case 't': return length(before);
            case 'W': return wave = drawn(2, random.nextInt(4) == 0 ? 60 : 6);
            case 'R': return drawn(0, Math.min(Math.max(wave, 1), 61) - 1);
            case 'a': return drawn(0, 6);
            case 'f': return drawn(0, 2);
            case 'v': return drawn(-9, 9);
            case 'x': return drawn(0, 9);
            case 'y': return drawn(0, random.nextBoolean() ? 99 : 12);
            case 'q': return drawn(0, random.nextBoolean() ? 50 : 5);
            case 'Y': return drawn(1, 4);
            case 'k': return drawn(-40, 40);
            default: return drawn(0, 400);
        }
    }

    private Object[] arguments(String kinds) {
        Object[] r = new Object[kinds.length()];
        int before = 0;
        for (int i = 0; i < r.length; i++) {
            r[i] = argument(kinds.charAt(i), before);
            before = r[i] instanceof Integer n ? Math.max(-2000, Math.min(2000, n)) : 0;
        }
        return r;
    }

    /** What comes early builds a mirror; what comes often differs from run to run. */
    private String call(int step, int[] weights, int sum) {
        if (step < 12 && random.nextInt(2) == 0) return "piece";
        int at = random.nextInt(sum);
        for (int i = 0; i < CALLS.length; i++) {
            at -= weights[i];
            if (at < 0) return CALLS[i];
        }
        return CALLS[0];
    }

    private void run(int run, int calls) throws Exception {
        int[] weights = new int[CALLS.length];
        int sum = 0;
        int taste = random.nextInt(5);
        for (int i = 0; i < CALLS.length; i++) {
            boolean liked = taste == 0 && i < 15 || taste == 1 && i < 21 || taste == 2 && i >= 20 && i < 30 || taste == 3 && i >= 30;
            weights[i] = (liked ? 8 : 1) + (CALLS[i].startsWith("eye") ? random.nextInt(12) : 0) + (CALLS[i].startsWith("set") ? 2 : 0);
            sum += weights[i];
        }
        List<String> told = new ArrayList<>();
        for (int step = 0; step < calls; step++) {
            String call = call(step, weights, sum);
            int gap = call.indexOf(' ');
            String name = gap < 0 ? call : call.substring(0, gap);
            Object[] arguments = arguments(gap < 0 ? "" : call.substring(gap + 1));
            int want = (Integer) SLOW.get(name).invoke(slow, arguments);
            int got = (Integer) FAST.get(name).invoke(fast, arguments);
            told.add(name + List.of(arguments) + " = " + want);
            if (got != want) {
                failed++;
                System.out.println("run " + run + ": answered " + got + " at the end of " + told);
                return;
            }
        }
        passed++;
    }

    public static void main(String[] args) throws Exception {
        for (Method m : PieceMirror.class.getDeclaredMethods()) {
            if (java.lang.reflect.Modifier.isPublic(m.getModifiers())) FAST.put(m.getName(), m);
        }
        for (Method m : SlowMirror.class.getDeclaredMethods()) {
            if (java.lang.reflect.Modifier.isPublic(m.getModifiers())) SLOW.put(m.getName(), m);
        }
        if (!FAST.keySet().equals(SLOW.keySet()) || FAST.size() != CALLS.length) {
            System.out.println("the calls of the model are not those of the class");
            System.exit(1);
        }
        int runs = args.length > 0 ? Integer.parseInt(args[0]) : 400;
        long first = args.length > 1 ? Long.parseLong(args[1]) : 1;
        for (int run = 0; run < runs; run++) {
            new ModelTest(first + run).run(run, run % 4 == 0 ? 512 : 150);
        }
        System.out.println(passed + " passed, " + failed + " failed");
        if (failed > 0) System.exit(1);
    }
}
