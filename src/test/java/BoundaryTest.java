import java.lang.reflect.InvocationTargetException;
import java.lang.reflect.Method;
import java.util.HashMap;
import java.util.Map;

/**
 * One test for each sentence of the document that names a boundary: too small, too large, empty, full, a wrap-around, a refused call.
 *
 * A test is the promise (0: the terms), the sentence, how many pieces a new mirror gets, and the calls that lead to the boundary:
 * "name arguments = due", parted by ";". "n times" ahead of a call repeats it; a call without "=" only leads there.
 * SlowMirror must answer each call alike, so that the model of ModelTest has the same boundaries.
 */
public final class BoundaryTest {
    private static final int PROMISES = 43;
    private static final Map<String, Integer> NAMES = Map.of("UNKNOWN", -900001, "OUTSIDE", -900002, "STATE", -900003, "FULL", -900004,
        "NONE", -900009, "LEAST", Integer.MIN_VALUE, "MOST", Integer.MAX_VALUE);
    private static final Map<String, Method> FAST = methods(PieceMirror.class);
    private static final Map<String, Method> SLOW = methods(SlowMirror.class);
    private static final int[] TESTS = new int[PROMISES + 1];
    private static int passed = 0, failed = 0;

    private static Map<String, Method> methods(Class<?> owner) {
        Map<String, Method> found = new HashMap<>();
        for (Method m : owner.getDeclaredMethods()) {
            if (java.lang.reflect.Modifier.isPublic(m.getModifiers())) found.put(m.getName(), m);
        }
        return found;
    }

    private static void test(int promise, String sentence, int pieces, String... rows) {
        PieceMirror mirror = new PieceMirror();
        SlowMirror model = new SlowMirror();
        for (int i = 0; i < pieces; i++) {
            mirror.piece();
            model.piece();
        }
        TESTS[promise]++;
        boolean compares = false;
        for (String row : String.join(";", rows).split(";")) {
            compares |= row.contains(" = ");
            String fault = faultIn(row.trim(), mirror, model);
            if (fault != null) {
                wrong("promise " + promise + ", " + sentence + ": " + fault);
                return;
            }
        }
        if (compares) {
            passed++;
        } else {
            wrong("promise " + promise + ", " + sentence + ": compares nothing");
        }
    }

    /** Does the calls of a row; null if all are answered as is due. */
    private static String faultIn(String row, PieceMirror mirror, SlowMirror model) {
        String[] sides = row.split(" = ");
        String call = sides[0].trim();
        int times = 1;
        int at = call.indexOf(" times ");
        if (at > 0) {
            times = Integer.parseInt(call.substring(0, at));
            call = call.substring(at + 7);
        }
        for (int i = 0; i < times; i++) {
            int got = answer(FAST, mirror, call);
            int ofModel = answer(SLOW, model, call);
            int due = sides.length > 1 ? number(sides[1].trim()) : ofModel;
            if (got != due) return call + " answered " + got + ", due is " + due;
            if (ofModel != due) return call + " of the model answered " + ofModel + ", due is " + due;
        }
        return null;
    }

    private static int answer(Map<String, Method> calls, Object owner, String call) {
        String[] words = call.split(" +");
        Object[] arguments = new Object[words.length - 1];
        for (int i = 0; i < arguments.length; i++) {
            String word = words[i + 1];
            arguments[i] = word.equals("true") || word.equals("false") ? (Object) Boolean.valueOf(word) : (Object) number(word);
        }
        try {
            return (Integer) calls.get(words[0]).invoke(owner, arguments);
        } catch (IllegalAccessException | InvocationTargetException e) {
            throw new IllegalStateException(call, e);
        }
    }

    private static int number(String word) {
        Integer named = NAMES.get(word);
        return named != null ? named : Integer.parseInt(word);
    }

    private static void wrong(String what) {
        failed++;
        System.out.println(what);
    }

    private static void constants() {
        int[] got = {PieceMirror.UNKNOWN, PieceMirror.OUTSIDE, PieceMirror.STATE, PieceMirror.FULL, PieceMirror.NONE};
        String[] names = {"UNKNOWN", "OUTSIDE", "STATE", "FULL", "NONE"};
        for (int i = 0; i < names.length; i++) {
            if (got[i] != NAMES.get(names[i])) wrong("constants: " + names[i] + " is " + got[i] + ", due is " + NAMES.get(names[i]));
        }
    }

    private static void lastCalls() {
        test(0, "used for at most 512 calls: what only asks", 7, chain() + "; eye 0 1 9 9 1; readAll; read 0 1; 484 times liars = 2");
        test(0, "used for at most 512 calls: what changes", 0, "255 times reach 6; 255 times reach 0; piece = 0; reach 3 = 0");
        test(0, "used for at most 512 calls: what is full", 2, "24 times eye 0 1 0 0 1; 20 times pair 0 1 2 0; 232 times eye 0 1 0 0 1 = FULL; 232 times pair 0 1 2 0 = FULL; count 2 = 24; count 6 = 20");
    }

    /** Of several refusals the first that a call names: one test a call that names more than one. */
    private static void firstRefusals() {
        String first = "of several the first that a call names: ";
        test(0, first + "wish", 1, "wish 1 100 0 0 = UNKNOWN; wish -1 0 10 0 = UNKNOWN; wish 1 0 0 -10 = UNKNOWN");
        test(0, first + "about", 1, "about 1 6 = UNKNOWN; about -1 -1 = UNKNOWN");
        test(0, first + "eye, unknown", 1, "eye 0 1 10 0 0 = UNKNOWN; eye 1 0 0 -10 100 = UNKNOWN; eye 1 1 0 0 1 = UNKNOWN");
        test(0, first + "eye, outside", 1, "eye 0 0 10 0 1 = OUTSIDE; eye 0 0 0 -10 1 = OUTSIDE; eye 0 0 0 0 0 = OUTSIDE; eye 0 0 0 0 100 = OUTSIDE");
        test(0, first + "eye, full last", 2, "24 times eye 0 1 0 0 1; eye 0 2 0 0 1 = UNKNOWN; eye 0 1 0 0 0 = OUTSIDE; eye 1 1 0 0 1 = STATE; eye 0 1 0 0 1 = FULL");
        test(0, first + "drift", 2, "drift 0 100 = UNKNOWN; eye 0 1 0 0 1 = 0; drift 1 -100 = UNKNOWN; drift 0 -100 = OUTSIDE");
        test(0, first + "sure, unknown", 2, "put 0 false; sure 0 2 10 0 = UNKNOWN; sure 2 0 0 0 = UNKNOWN; sure -1 0 0 0 = UNKNOWN");
        test(0, first + "sure, outside", 2, "put 1 false; sure 0 1 10 0 = OUTSIDE; sure 1 0 0 -10 = OUTSIDE; sure 1 0 0 -9 = STATE");
        test(0, first + "read", 2, "read 0 10000 = UNKNOWN; eye 0 1 0 0 1 = 0; read 1 10000 = UNKNOWN; read 0 10000 = OUTSIDE");
        test(0, first + "leg, unknown", 1, "3 times leg 0 0 0 0 0; leg 1 10 0 0 0 = UNKNOWN; leg -1 0 0 1 0 = UNKNOWN");
        test(0, first + "leg, outside", 1, "3 times leg 0 0 0 0 0; leg 0 10 0 0 0 = OUTSIDE; leg 0 0 0 1 0 = OUTSIDE; leg 0 0 0 0 0 = STATE");
        test(0, first + "stick", 1, "stick 0 1000 = UNKNOWN; leg 0 0 0 0 9 = 0; stick 1 10 = UNKNOWN; stick 0 10 = OUTSIDE");
        test(0, first + "set", 1, "leg 0 0 0 1 9 = 0; set 1 = UNKNOWN; set 0 = STATE");
        test(0, first + "pair, unknown", 1, "pair 0 1 1 0 = UNKNOWN; pair 1 0 5 5 = UNKNOWN; pair 1 1 5 0 = UNKNOWN");
        test(0, first + "pair, outside", 1, "pair 0 0 1 0 = OUTSIDE; pair 0 0 61 0 = OUTSIDE; pair 0 0 5 5 = OUTSIDE; pair 0 0 5 -1 = OUTSIDE");
        test(0, first + "pair, full last", 2, "20 times pair 0 1 5 0; pair 0 2 5 0 = UNKNOWN; pair 0 1 5 5 = OUTSIDE; pair 1 1 5 0 = STATE; pair 0 1 5 0 = FULL");
        test(0, first + "flaw", 1, "flaw 1 3 0 = UNKNOWN; flaw -1 0 10 = UNKNOWN");
        test(0, first + "weigh", 1, "weigh 1 3 0 = UNKNOWN; weigh -1 0 10 = UNKNOWN");
        test(0, first + "age", 1, "age 1 100 = UNKNOWN; age -1 -1 = UNKNOWN");
    }

    /** What is refused changes nothing: one test a call that changes something and can be refused. */
    private static void refusedChangesNothing() {
        String nothing = "what is refused changes nothing: ";
        test(0, nothing + "piece", 7, "put 6 false; age 6 5; piece = FULL; count 0 = 7; count 1 = 6; age 6 5 = 5");
        test(0, nothing + "put", 2, "put 2 false = UNKNOWN; put -1 false = UNKNOWN; count 1 = 2");
        test(0, nothing + "wish", 2, "wish 0 1 2 3; wish 0 4 5 10 = OUTSIDE; wish 0 4 10 6 = OUTSIDE; wish 0 100 5 6 = OUTSIDE; wish 2 4 5 6 = UNKNOWN;"
            + "about 0 3 = 1; about 0 4 = 2; about 0 5 = 3; about 1 3 = 0; about 1 4 = 0; about 1 5 = 0");
        test(0, nothing + "eye", 2, "eye 0 1 10 0 1 = OUTSIDE; eye 0 2 0 0 1 = UNKNOWN; eye 1 1 0 0 1 = STATE; count 2 = 0; moves true = 0; eye 0 1 0 0 1 = 0");
        test(0, nothing + "eye, full", 2, "24 times eye 0 1 0 0 1; eye 0 1 0 1 1 = FULL; count 2 = 24; count 3 = 24; moves true = 1");
        test(0, nothing + "blind", 2, "eye 0 1 0 0 1; blind 1 true = UNKNOWN; blind -1 true = UNKNOWN; count 3 = 1; blind 0 false = 0");
        test(0, nothing + "drift", 2, "eye 0 1 0 0 1; drift 0 7; drift 0 100 = OUTSIDE; drift 1 5 = UNKNOWN; tells 0 = 7; drift 0 7 = 7");
        test(0, nothing + "read", 2, "eye 0 1 0 0 1; read 0 7; read 0 10000 = OUTSIDE; read 1 NONE = UNKNOWN; count 4 = 1; read 0 7 = 7");
        test(0, nothing + "leg", 2, "leg 0 0 0 1 0 = OUTSIDE; leg 0 10 0 0 0 = OUTSIDE; leg 2 0 0 0 0 = UNKNOWN; count 5 = 0; bars 0 = NONE;"
            + "3 times leg 0 0 0 -5 5; leg 0 0 0 1 1 = STATE; count 5 = 3; bars 0 = NONE; leg 1 0 0 0 0 = 3");
        test(0, nothing + "stick", 1, "leg 0 0 0 -5 5; stick 0 2; stick 0 6 = OUTSIDE; stick 0 -6 = OUTSIDE; stick 1 NONE = UNKNOWN; bars 0 = 0; stick 0 2 = 2");
        test(0, nothing + "set", 1, "wish 0 1 2 3; set 0; leg 0 0 0 50 60; wish 0 4 5 6; set 0 = STATE; set 1 = UNKNOWN; about 0 0 = 1; about 0 1 = 2; about 0 2 = 3;"
            + "about 0 3 = 4; about 0 4 = 5; about 0 5 = 6");
        test(0, nothing + "pair", 2, "pair 0 1 1 0 = OUTSIDE; pair 0 1 5 5 = OUTSIDE; pair 0 2 5 0 = UNKNOWN; pair 1 1 5 0 = STATE; count 6 = 0; ways = 7;"
            + "20 times pair 0 1 5 0; pair 0 1 5 1 = FULL; count 6 = 20; ways = 1; lift 1 = 0");
        test(0, nothing + "drop", 2, "pair 0 1 5 1; drop 1 = UNKNOWN; drop -1 = UNKNOWN; count 6 = 1; ways = 1; drop 0 = 5");
        test(0, nothing + "reach", 2, "reach 5; reach 7 = OUTSIDE; reach -1 = OUTSIDE; ways = 11; reach 5 = 5");
        test(0, nothing + "flaw", 1, "flaw 0 1 4; flaw 0 1 10 = OUTSIDE; flaw 0 3 5 = OUTSIDE; flaw 1 1 5 = UNKNOWN; costs 0 0 = 4; flaw 0 1 4 = 4");
        test(0, nothing + "weigh", 1, "weigh 0 1 4; weigh 0 1 10 = OUTSIDE; weigh 0 3 5 = OUTSIDE; weigh 1 1 5 = UNKNOWN; flaw 0 1 2; costs 0 0 = 8; weigh 0 1 4 = 4");
        test(0, nothing + "age", 1, "age 0 4; age 0 100 = OUTSIDE; age 0 -1 = OUTSIDE; age 1 5 = UNKNOWN; plan 1 = 60; age 0 4 = 4");
        test(0, nothing + "loss", 1, "age 0 4; loss 5; loss 51 = OUTSIDE; loss -1 = OUTSIDE; plan 1 = 80; loss 5 = 5");
        test(0, nothing + "what only asks", 2, "eye 0 1 0 0 1; read 0 3; put 1 false; tells 0 = STATE; sure 0 1 0 0 = STATE; without 1 = STATE; put 1 true = 0; read 0 3 = 3; count 3 = 1");
    }

    private static void aNewObject() {
        test(1, "no PIECES", 0, "count 0 = 0; count 1 = 0; count 2 = 0; count 3 = 0; count 4 = 0; count 5 = 0; count 6 = 0");
        test(1, "no PIECES: every call that names one", 0, "put 0 true = UNKNOWN; wish 0 0 0 0 = UNKNOWN; about 0 0 = UNKNOWN; eye 0 0 0 0 1 = UNKNOWN;"
            + "sure 0 0 0 0 = UNKNOWN; without 0 = UNKNOWN; leg 0 0 0 0 0 = UNKNOWN; bars 0 = UNKNOWN; set 0 = UNKNOWN; pair 0 0 2 0 = UNKNOWN;"
            + "lift 0 = UNKNOWN; flaw 0 0 0 = UNKNOWN; weigh 0 0 1 = UNKNOWN; costs 0 0 = UNKNOWN; hole 0 = UNKNOWN; age 0 0 = UNKNOWN");
        test(1, "no PIECES, so no EYES, LEGS, PAIRS", 0, "blind 0 true = UNKNOWN; drift 0 0 = UNKNOWN; tells 0 = UNKNOWN; needed 0 = UNKNOWN; read 0 0 = UNKNOWN;"
            + "stick 0 0 = UNKNOWN; drop 0 = UNKNOWN");
        test(1, "no PIECES: moves and readings", 0, "moves false = 0; moves true = 0; unseen = 1; cheapest = 0; keep 0 = NONE; readAll = 0; agree = 1; liars = 0; liar 0 = NONE");
        test(1, "no PIECES: stars, holes, coats, spots", 0, "ways = 1; quarrel = NONE; swap = 0; plan 1 = 0; plan 4 = 0; coat 1 0 = NONE; coat 4 3 = NONE;"
            + "light 0 0 400 = 0; focus 400 0 = -40; focus 400 1 = -40; focus 400 2 = 0");
        test(1, "REACH 3 at first, LOSS 10 at first", 0, "reach 3 = 3; loss 10 = 10");
    }

    private static void pieces() {
        test(2, "PIECES 0, 1, .. (7 at most)", 0, "piece = 0; piece = 1; piece = 2; piece = 3; piece = 4; piece = 5; piece = 6; count 0 = 7");
        test(2, "FULL: 7", 7, "piece = FULL; piece = FULL; count 0 = 7");
        test(2, "FULL: 7, those that are OUT too", 7, "put 0 false; put 6 false; piece = FULL; count 1 = 5");
        test(3, "IN (so at first)", 1, "count 1 = 1; put 0 true = 1");
        test(3, "or OUT: how it was", 1, "put 0 false = 1; put 0 false = 0; count 1 = 0; put 0 true = 0; put 0 true = 1; count 1 = 1");
        test(3, "UNKNOWN", 2, "put 2 true = UNKNOWN; put -1 true = UNKNOWN; put LEAST false = UNKNOWN; put MOST false = UNKNOWN");
        test(3, "UNKNOWN beyond the last of 7", 7, "put 6 false = 1; put 7 false = UNKNOWN");
    }

    private static void wishes() {
        test(4, "a LIFT (-99 to 99)", 1, "wish 0 -99 0 0 = 1; about 0 3 = -99; wish 0 99 0 0 = 1; about 0 3 = 99");
        test(4, "OUTSIDE: LIFT", 1, "wish 0 -100 0 0 = OUTSIDE; wish 0 100 0 0 = OUTSIDE; wish 0 LEAST 0 0 = OUTSIDE; wish 0 MOST 0 0 = OUTSIDE; wish 0 NONE 0 0 = OUTSIDE");
        test(4, "two LEANS (-9 to 9)", 1, "wish 0 0 -9 9 = 1; about 0 4 = -9; about 0 5 = 9; wish 0 0 9 -9 = 1; about 0 4 = 9; about 0 5 = -9");
        test(4, "OUTSIDE: first LEAN", 1, "wish 0 0 -10 0 = OUTSIDE; wish 0 0 10 0 = OUTSIDE; wish 0 0 LEAST 0 = OUTSIDE; wish 0 0 MOST 0 = OUTSIDE");
        test(4, "OUTSIDE: second LEAN", 1, "wish 0 0 0 -10 = OUTSIDE; wish 0 0 0 10 = OUTSIDE; wish 0 0 0 LEAST = OUTSIDE; wish 0 0 0 MOST = OUTSIDE");
        test(4, "UNKNOWN", 1, "wish 1 0 0 0 = UNKNOWN; wish -1 0 0 0 = UNKNOWN; wish MOST 0 0 0 = UNKNOWN");
        test(5, "all 0 at first", 1, "about 0 0 = 0; about 0 1 = 0; about 0 2 = 0");
        test(5, "and a WISH, likewise", 1, "about 0 3 = 0; about 0 4 = 0; about 0 5 = 0");
        test(5, "a PLANE as large as may be", 1, "wish 0 99 9 -9; set 0 = 1; about 0 0 = 99; about 0 1 = 9; about 0 2 = -9");
        test(5, "a PLANE as small as may be", 1, "wish 0 -99 -9 9; set 0 = 1; about 0 0 = -99; about 0 1 = -9; about 0 2 = 9");
        test(5, "of one that is OUT", 1, "wish 0 1 2 3; put 0 false; about 0 3 = 1; about 0 0 = 0");
        test(5, "OUTSIDE", 1, "about 0 -1 = OUTSIDE; about 0 6 = OUTSIDE; about 0 LEAST = OUTSIDE; about 0 MOST = OUTSIDE");
        test(5, "UNKNOWN", 1, "about 1 0 = UNKNOWN; about -1 5 = UNKNOWN");
    }

    private static void eyes() {
        test(6, "EYES 0, 1, .. (24 at most)", 2, "eye 0 1 0 0 1 = 0; eye 0 1 0 0 1 = 1; 21 times eye 0 1 0 0 1; eye 1 0 0 0 1 = 23; count 2 = 24");
        test(6, "FULL: 24", 2, "24 times eye 0 1 0 0 1; eye 0 1 0 0 1 = FULL; count 2 = 24");
        test(6, "FULL: 24, BLIND ones too", 2, "24 times eye 0 1 0 0 1; blind 0 true; blind 23 true; eye 0 1 0 0 1 = FULL");
        test(6, "at a point (-9 to 9 each way)", 2, "eye 0 1 -9 -9 1 = 0; eye 0 1 9 9 1 = 1; eye 0 1 -9 9 1 = 2; eye 0 1 9 -9 1 = 3");
        test(6, "OUTSIDE: point", 2, "eye 0 1 -10 0 1 = OUTSIDE; eye 0 1 10 0 1 = OUTSIDE; eye 0 1 0 -10 1 = OUTSIDE; eye 0 1 0 10 1 = OUTSIDE;"
            + "eye 0 1 LEAST 0 1 = OUTSIDE; eye 0 1 0 MOST 1 = OUTSIDE");
        test(6, "with a PRICE (1 to 99)", 2, "eye 0 1 0 0 1 = 0; cheapest = 1; eye 0 1 1 0 99 = 1; cheapest = 100");
        test(6, "OUTSIDE: PRICE", 2, "eye 0 1 0 0 0 = OUTSIDE; eye 0 1 0 0 100 = OUTSIDE; eye 0 1 0 0 -1 = OUTSIDE; eye 0 1 0 0 LEAST = OUTSIDE; eye 0 1 0 0 MOST = OUTSIDE");
        test(6, "STATE: both are one", 7, "eye 0 0 0 0 1 = STATE; eye 6 6 9 9 99 = STATE");
        test(6, "UNKNOWN: pieces", 2, "eye 2 0 0 0 1 = UNKNOWN; eye 0 2 0 0 1 = UNKNOWN; eye -1 0 0 0 1 = UNKNOWN; eye 0 -1 0 0 1 = UNKNOWN; eye MOST LEAST 0 0 1 = UNKNOWN");
        test(6, "between two PIECES, OUT too", 2, "put 0 false; put 1 false; eye 0 1 0 0 1 = 0; count 3 = 0; put 0 true; count 3 = 0; put 1 true; count 3 = 1");
        test(7, "not BLIND at first", 2, "eye 0 1 0 0 1; count 3 = 1; blind 0 false = 0");
        test(7, "how it was", 2, "eye 0 1 0 0 1; blind 0 true = 0; blind 0 true = 1; count 3 = 0; blind 0 false = 1; blind 0 false = 0; count 3 = 1");
        test(7, "UNKNOWN", 2, "blind 0 true = UNKNOWN; eye 0 1 0 0 1; blind 1 true = UNKNOWN; blind -1 true = UNKNOWN; blind LEAST true = UNKNOWN; blind MOST true = UNKNOWN");
        test(7, "UNKNOWN beyond the last of 24", 2, "24 times eye 0 1 0 0 1; blind 23 true = 0; blind 24 true = UNKNOWN");
    }

    private static void eyesTell() {
        test(8, "DRIFT (-99 to 99; 0 at first)", 2, "eye 0 1 0 0 1; drift 0 99 = 0; tells 0 = 99; drift 0 -99 = 99; tells 0 = -99; drift 0 0 = -99");
        test(8, "OUTSIDE", 2, "eye 0 1 0 0 1; drift 0 100 = OUTSIDE; drift 0 -100 = OUTSIDE; drift 0 LEAST = OUTSIDE; drift 0 MOST = OUTSIDE; drift 0 NONE = OUTSIDE");
        test(8, "UNKNOWN", 2, "drift 0 0 = UNKNOWN; eye 0 1 0 0 1; drift 1 0 = UNKNOWN; drift -1 0 = UNKNOWN");
        test(8, "of one that does not WORK", 2, "eye 0 1 0 0 1; blind 0 true; drift 0 5 = 0; blind 0 false; tells 0 = 5");
        test(9, "the most that an EYE TELLS", 2, "eye 0 1 9 9 1; wish 0 99 9 9; set 0; wish 1 -99 -9 -9; set 1; drift 0 99; tells 0 = 621");
        test(9, "the least that an EYE TELLS", 2, "eye 0 1 -9 -9 1; wish 0 -99 9 9; set 0; wish 1 99 -9 -9; set 1; drift 0 -99; tells 0 = -621");
        test(9, "STATE: BLIND", 2, "eye 0 1 0 0 1; blind 0 true; tells 0 = STATE; blind 0 false; tells 0 = 0");
        test(9, "STATE: its first PIECE is OUT", 2, "eye 0 1 0 0 1; put 0 false; tells 0 = STATE; put 0 true; tells 0 = 0");
        test(9, "STATE: its second PIECE is OUT", 2, "eye 0 1 0 0 1; put 1 false; tells 0 = STATE; put 1 true; tells 0 = 0");
        test(9, "UNKNOWN", 2, "tells 0 = UNKNOWN; eye 0 1 0 0 1; tells 1 = UNKNOWN; tells -1 = UNKNOWN; tells MOST = UNKNOWN");
    }

    private static void moves() {
        test(10, "3 at least, if any PIECE is IN", 1, "moves false = 3; moves true = 0; put 0 false; moves false = 0; moves true = 0");
        test(10, "3 at least, by EYES enough", 2, "eye 0 1 0 0 1; moves false = 5; eye 0 1 1 0 1; moves false = 4; eye 0 1 0 1 1; moves false = 3; 21 times eye 1 0 9 -9 1;"
            + "moves false = 3; moves true = 3");
        test(10, "no EYES: three times the PIECES that are IN", 7, "moves false = 21; moves true = 0; put 3 false; moves false = 18");
        test(10, "as many SEEN as may be", 7, chain() + "; moves false = 3; moves true = 18; put 3 false; moves false = 6; moves true = 12");
        test(10, "no EYE that WORKS would TELL another number", 2, "eye 0 1 0 0 1; blind 0 true; moves false = 6; moves true = 0; blind 0 false; moves true = 1; put 1 false; moves true = 0");
        test(10, "EYES at one point, and on one line", 2, "3 times eye 0 1 4 4 1; moves true = 1; eye 1 0 -9 -9 1; moves true = 2; eye 0 1 9 9 1; moves true = 2; eye 0 1 9 8 1; moves true = 3");
        test(10, "points at the edge, nearly on one line", 2, "eye 0 1 -9 -9 1; eye 0 1 0 0 1; eye 0 1 9 8 1; moves true = 3");
        test(11, "no MOVE at all is UNSEEN", 2, "eye 0 1 9 9 1; unseen = 1");
        test(11, "all alike, with one PLANE added to each, are", 7, chain() + ";" + wishAll(7, "99 -9 9") + "unseen = 1; wish 6 99 -9 8; unseen = 0; wish 6 98 -9 9; unseen = 0");
        test(11, "of PIECES that are IN", 2, "eye 0 1 0 0 1; wish 1 1 0 0; unseen = 0; put 1 false; unseen = 1; put 1 true; put 0 false; unseen = 1");
        test(11, "no EYES: all are UNSEEN", 2, "wish 0 99 9 9; wish 1 -99 -9 -9; unseen = 1; eye 0 1 0 0 1; unseen = 0; blind 0 true; unseen = 1");
        test(11, "the HEIGHT at the EYE stays, at the edge", 2, "eye 0 1 9 -9 1; wish 0 0 9 9; unseen = 1; wish 0 1 9 9; unseen = 0; wish 0 81 -9 0; unseen = 1");
        test(11, "WISHES, not PLANES", 2, "eye 0 1 0 0 1; wish 0 5 0 0; set 0; wish 0 0 0 0; unseen = 1");
    }

    /** Three eyes from each of seven pieces to the next: each difference is seen whole. */
    private static String chain() {
        StringBuilder rows = new StringBuilder();
        for (int i = 0; i < 6; i++) {
            for (String point : new String[] {"9 9", "-9 9", "0 -9"}) {
                rows.append(rows.length() == 0 ? "" : ";").append("eye ").append(i).append(' ').append(i + 1).append(' ').append(point).append(" 99");
            }
        }
        return rows.toString();
    }

    private static String wishAll(int pieces, String plane) {
        StringBuilder rows = new StringBuilder();
        for (int i = 0; i < pieces; i++) rows.append("wish ").append(i).append(' ').append(plane).append(';');
        return rows.toString();
    }

    private static void need() {
        test(12, "NEEDED, if it WORKS", 2, "eye 0 1 0 0 1; needed 0 = 1; blind 0 true; needed 0 = 0; blind 0 false; put 1 false; needed 0 = 0; put 1 true; needed 0 = 1");
        test(12, "more MOVES would be UNSEEN without it", 2, "eye 0 1 0 0 1; needed 0 = 1; eye 1 0 0 0 1; needed 0 = 0; needed 1 = 0; blind 1 true; needed 0 = 1; needed 1 = 0");
        test(12, "the last of 24", 2, "23 times eye 0 1 0 0 1; eye 0 1 9 0 1; needed 22 = 0; needed 23 = 1; needed 24 = UNKNOWN");
        test(12, "UNKNOWN", 2, "needed 0 = UNKNOWN; eye 0 1 0 0 1; needed 1 = UNKNOWN; needed -1 = UNKNOWN; needed LEAST = UNKNOWN");
        test(13, "EYES that WORK: none", 2, "cheapest = 0; eye 0 1 0 0 7; cheapest = 7; blind 0 true; cheapest = 0; blind 0 false; put 0 false; cheapest = 0");
        test(13, "no more MOVES were UNSEEN: a dear one is kept, a cheap one is not", 2, "eye 0 1 0 0 1; eye 0 1 1 1 1; eye 0 1 2 2 1; eye 0 1 0 1 99; cheapest = 101; keep 2 = 3");
        test(13, "as many as may be, as dear as may be", 7, chain() + "; cheapest = 1782; keep 0 = 0; keep 17 = 17; keep 18 = NONE");
        test(13, "with the least PRICE together", 2, "eye 0 1 5 5 99; eye 0 1 5 5 98; cheapest = 98; keep 0 = 1; eye 0 1 5 5 1; cheapest = 1; keep 0 = 2");
        test(14, "of like ones that which has the least EYE that is not in both", 2, "eye 0 1 0 0 5; eye 1 0 0 0 5; keep 0 = 0; keep 1 = NONE; blind 0 true; keep 0 = 1; keep 1 = NONE");
        test(14, "of like ones, with a cheap one behind", 2, "eye 0 1 0 0 4; eye 0 1 1 0 4; eye 0 1 2 0 4; eye 0 1 3 0 1; cheapest = 5; keep 0 = 0; keep 1 = 3; keep 2 = NONE");
        test(14, "by numbers, not by PRICE", 2, "eye 0 1 0 0 9; eye 0 1 1 0 5; eye 0 1 0 1 1; keep 0 = 0; keep 1 = 1; keep 2 = 2; keep 3 = NONE");
        test(14, "NONE", 2, "keep 0 = NONE; eye 0 1 0 0 1; keep 0 = 0; keep 1 = NONE; keep -1 = NONE; keep 23 = NONE; keep 24 = NONE; keep LEAST = NONE; keep MOST = NONE");
        test(14, "the last of 24", 2, "23 times eye 0 1 0 0 9; eye 0 1 0 0 8; cheapest = 8; keep 0 = 23; keep 1 = NONE");
    }

    private static void sureness() {
        test(15, "a point (-9 to 9)", 2, "sure 0 1 -9 -9 = 0; sure 0 1 9 9 = 0; sure 0 0 9 -9 = 1; eye 0 1 9 -9 1; sure 0 1 9 -9 = 1; sure 0 1 9 -8 = 0");
        test(15, "OUTSIDE: point", 2, "sure 0 1 -10 0 = OUTSIDE; sure 0 1 10 0 = OUTSIDE; sure 0 1 0 -10 = OUTSIDE; sure 0 1 0 10 = OUTSIDE; sure 0 1 LEAST 0 = OUTSIDE; sure 0 1 0 MOST = OUTSIDE");
        test(15, "STATE: one is OUT", 3, "put 1 false; sure 0 1 0 0 = STATE; sure 1 0 0 0 = STATE; sure 1 1 0 0 = STATE; sure 0 2 0 0 = 0; put 1 true; sure 1 1 0 0 = 1");
        test(15, "UNKNOWN", 2, "sure 2 0 0 0 = UNKNOWN; sure 0 2 0 0 = UNKNOWN; sure -1 0 0 0 = UNKNOWN; sure 0 LEAST 0 0 = UNKNOWN");
        test(15, "no UNSEEN MOVE changes it: by no EYES, by one, by a third PIECE", 3, "sure 0 2 3 3 = 0; eye 0 1 3 3 1; eye 1 2 3 3 1; sure 0 2 3 3 = 1; sure 2 0 3 3 = 1; sure 0 2 3 4 = 0;"
            + "put 1 false; sure 0 2 3 3 = 0");
        test(16, "than are then at least (3 ..)", 7, chain() + "; without 0 = 0; without 6 = 0; without 3 = 3; put 0 false; without 1 = 0; without 0 = STATE");
        test(16, "(.. or 0 if none is IN)", 1, "without 0 = 0; put 0 false; without 0 = STATE");
        test(16, "no EYES", 7, "without 0 = 15; put 6 false; without 0 = 12");
        test(16, "two are IN: one is left", 2, "without 0 = 0; without 1 = 0; eye 0 1 0 0 1; without 0 = 0");
        test(16, "STATE: it is OUT", 2, "put 1 false; without 1 = STATE; without 0 = 0");
        test(16, "UNKNOWN", 2, "without 2 = UNKNOWN; without -1 = UNKNOWN; without MOST = UNKNOWN");
        test(16, "the PIECE stays IN", 2, "without 0; count 1 = 2; put 0 true = 1");
    }

    private static void readings() {
        test(17, "a number (-9999 to 9999) or NONE (at first)", 2, "eye 0 1 0 0 1; read 0 -9999 = NONE; read 0 9999 = -9999; read 0 NONE = 9999; read 0 NONE = NONE");
        test(17, "OUTSIDE", 2, "eye 0 1 0 0 1; read 0 -10000 = OUTSIDE; read 0 10000 = OUTSIDE; read 0 -900008 = OUTSIDE; read 0 -900010 = OUTSIDE; read 0 LEAST = OUTSIDE; read 0 MOST = OUTSIDE");
        test(17, "UNKNOWN", 2, "read 0 0 = UNKNOWN; eye 0 1 0 0 1; read 1 NONE = UNKNOWN; read -1 0 = UNKNOWN");
        test(17, "of an EYE that does not WORK too", 2, "eye 0 1 0 0 1; blind 0 true; read 0 5 = NONE; count 4 = 0; blind 0 false; count 4 = 1; read 0 0 = 5");
        test(18, "no EYES", 2, "readAll = 0; count 4 = 0");
        test(18, "all of 24", 2, "24 times eye 0 1 0 0 1; readAll = 24; count 4 = 24; read 23 NONE = 0");
        test(18, "others none: BLIND", 2, "2 times eye 0 1 0 0 1; read 0 5; blind 0 true; readAll = 1; blind 0 false; read 0 0 = NONE; read 1 0 = 0");
        test(18, "others none: a PIECE is OUT", 3, "eye 0 1 0 0 1; eye 0 2 0 0 1; read 1 5; put 2 false; readAll = 1; put 2 true; read 1 0 = NONE; read 0 5 = 0");
        test(18, "the most and the least that is TOLD", 2, "eye 0 1 9 9 1; eye 1 0 9 9 1; wish 0 99 9 9; set 0; wish 1 -99 -9 -9; set 1; drift 0 99; drift 1 -99; readAll = 2;"
            + "agree = 1; read 0 NONE = 621; read 1 NONE = -621");
        test(19, "no READINGS AGREE", 2, "agree = 1; eye 0 1 0 0 1; agree = 1; read 0 9999; agree = 1; drift 0 -99; agree = 1");
        test(19, "of EYES that WORK", 2, "2 times eye 0 1 0 0 1; read 0 1; read 1 2; agree = 0; blind 0 true; agree = 1; blind 0 false; agree = 0; put 0 false; agree = 1");
        test(19, "DRIFT taken off", 2, "2 times eye 0 1 0 0 1; read 0 9999; read 1 9801; agree = 0; drift 0 99; agree = 0; drift 1 -99; agree = 1; drift 1 -98; agree = 0");
        test(19, "any numbers, far beyond a PLANE's own", 2, "eye 0 1 0 0 1; eye 0 1 1 0 1; eye 0 1 0 1 1; eye 0 1 1 1 1; read 0 9999; read 1 -9999; read 2 9999; read 3 -9999; agree = 1; read 3 -9998; agree = 0");
        test(19, "fractions too", 2, "eye 0 1 0 0 1; eye 0 1 9 0 1; eye 0 1 -9 0 1; read 0 0; read 1 1; read 2 -1; agree = 1; eye 0 1 1 0 1; read 3 0; agree = 0; read 3 NONE; read 2 -2; agree = 0");
        test(19, "round three PIECES", 3, "eye 0 1 3 3 1; eye 1 2 3 3 1; eye 2 0 3 3 1; read 0 9999; read 1 -9999; read 2 0; agree = 1; read 2 1; agree = 0; read 2 NONE; agree = 1");
    }

    private static void lies() {
        test(20, "though all together do not: none", 2, "liars = 0; 3 times eye 0 1 0 0 1; liars = 0; readAll; liars = 0; liar 0 = NONE");
        test(20, "all others AGREE without it", 2, "3 times eye 0 1 0 0 1; readAll; read 1 1; liars = 1; liar 0 = 1");
        test(20, "two that quarrel may both lie", 2, "2 times eye 0 1 0 0 1; read 0 1; read 1 2; liars = 2; liar 0 = 0; liar 1 = 1; liar 2 = NONE");
        test(20, "no one alone", 2, "4 times eye 0 1 0 0 1; readAll; read 0 1; read 1 2; agree = 0; liars = 0; liar 0 = NONE");
        test(20, "an EYE that WORKS", 2, "3 times eye 0 1 0 0 1; readAll; read 2 1; blind 2 true; liars = 0; blind 2 false; liars = 1; put 1 false; liars = 0");
        test(20, "with a READING", 2, "3 times eye 0 1 0 0 1; readAll; read 2 1; read 1 NONE; liars = 2; liar 0 = 0; liar 1 = 2");
        test(20, "by the least that is too much, at the largest READINGS", 2, "3 times eye 0 1 9 9 1; read 0 9999; read 1 9999; read 2 9998; liars = 1; liar 0 = 2; drift 2 -1; liars = 0");
        test(21, "the i-th of 24", 2, "24 times eye 0 1 0 0 1; readAll; read 23 1; liars = 1; liar 0 = 23; liar 1 = NONE");
        test(21, "the i-th, asked for first", 2, "3 times eye 0 1 0 0 1; readAll; read 1 1; liar 0 = 1; read 1 0; liar 0 = NONE; read 2 1; liar 0 = 2; liar 1 = NONE");
        test(21, "NONE", 2, "liar 0 = NONE; 2 times eye 0 1 0 0 1; read 0 1; read 1 2; liar -1 = NONE; liar 2 = NONE; liar 24 = NONE; liar LEAST = NONE; liar MOST = NONE");
    }

    private static void legs() {
        test(22, "LEGS 0, 1, .. (3 of a PIECE at most)", 2, "leg 0 0 0 0 0 = 0; leg 0 0 0 0 0 = 1; leg 0 0 0 0 0 = 2; leg 1 0 0 0 0 = 3; count 5 = 4");
        test(22, "STATE: it has three", 2, "3 times leg 0 0 0 0 0; leg 0 0 0 0 0 = STATE; 2 times leg 1 0 0 0 0; leg 1 0 0 0 0 = 5; leg 1 0 0 0 0 = STATE; count 5 = 6");
        test(22, "three of each of 7", 7, "3 times leg 0 0 0 0 0; 3 times leg 1 0 0 0 0; 3 times leg 2 0 0 0 0; 3 times leg 3 0 0 0 0; 3 times leg 4 0 0 0 0; 3 times leg 5 0 0 0 0;"
            + "2 times leg 6 0 0 0 0; leg 6 0 0 0 0 = 20; leg 6 0 0 0 0 = STATE; count 5 = 21; stick 20 0 = NONE; stick 21 0 = UNKNOWN");
        test(22, "OUTSIDE: point", 1, "leg 0 -9 9 0 0 = 0; leg 0 9 -9 0 0 = 1; leg 0 10 0 0 0 = OUTSIDE; leg 0 -10 0 0 0 = OUTSIDE; leg 0 0 10 0 0 = OUTSIDE; leg 0 0 -10 0 0 = OUTSIDE;"
            + "leg 0 LEAST 0 0 0 = OUTSIDE; leg 0 0 MOST 0 0 = OUTSIDE");
        test(22, "from LOW to HIGH (-999 to 999)", 1, "leg 0 0 0 -999 999 = 0; leg 0 0 0 -999 -999 = 1; leg 0 0 0 999 999 = 2");
        test(22, "OUTSIDE: low", 1, "leg 0 0 0 -1000 0 = OUTSIDE; leg 0 0 0 LEAST 0 = OUTSIDE; leg 0 0 0 NONE 0 = OUTSIDE; leg 0 0 0 1000 1000 = OUTSIDE");
        test(22, "OUTSIDE: high", 1, "leg 0 0 0 0 1000 = OUTSIDE; leg 0 0 0 0 MOST = OUTSIDE; leg 0 0 0 -1000 -1000 = OUTSIDE; leg 0 0 0 LEAST MOST = OUTSIDE");
        test(22, "(no less than low)", 1, "leg 0 0 0 1 0 = OUTSIDE; leg 0 0 0 999 -999 = OUTSIDE; leg 0 0 0 -998 -999 = OUTSIDE; leg 0 0 0 1 1 = 0");
        test(22, "UNKNOWN: piece", 1, "leg 1 0 0 0 0 = UNKNOWN; leg -1 0 0 0 0 = UNKNOWN; leg MOST 0 0 0 0 = UNKNOWN");
        test(23, "free at first", 1, "leg 0 0 0 0 9; stick 0 NONE = NONE");
        test(23, "STUCK at a length (LOW to HIGH)", 1, "leg 0 0 0 -3 4; stick 0 -3 = NONE; stick 0 4 = -3; stick 0 NONE = 4; stick 0 NONE = NONE");
        test(23, "OUTSIDE", 1, "leg 0 0 0 -3 4; stick 0 -4 = OUTSIDE; stick 0 5 = OUTSIDE; stick 0 LEAST = OUTSIDE; stick 0 MOST = OUTSIDE; stick 0 -900008 = OUTSIDE");
        test(23, "OUTSIDE, one length alone", 1, "leg 0 0 0 999 999; stick 0 999 = NONE; stick 0 998 = OUTSIDE; stick 0 1000 = OUTSIDE");
        test(23, "UNKNOWN", 1, "stick 0 NONE = UNKNOWN; leg 0 0 0 0 9; stick 1 NONE = UNKNOWN; stick -1 0 = UNKNOWN; stick MOST 0 = UNKNOWN");
    }

    private static void settings() {
        test(24, "NONE: it can, without LEGS", 1, "wish 0 99 9 9; bars 0 = NONE");
        test(24, "at each of its LEGS from LOW", 1, "leg 0 9 9 261 999; wish 0 99 9 9; bars 0 = NONE; wish 0 98 9 9; bars 0 = 0");
        test(24, "at each of its LEGS to HIGH", 1, "leg 0 -9 -9 -999 -261; wish 0 -99 9 9; bars 0 = NONE; wish 0 -98 9 9; bars 0 = 0");
        test(24, "and what it is STUCK at, if it is", 1, "leg 0 0 0 -5 5; stick 0 5; bars 0 = 0; wish 0 5 0 0; bars 0 = NONE; wish 0 4 0 0; bars 0 = 0; stick 0 NONE; bars 0 = NONE");
        test(24, "the first LEG", 1, "leg 0 0 0 -9 9; leg 0 1 0 -9 9; leg 0 0 1 -9 9; wish 0 0 0 9; bars 0 = NONE; wish 0 1 0 9; bars 0 = 2; wish 0 1 9 9; bars 0 = 1; wish 0 10 9 9; bars 0 = 0");
        test(24, "the first LEG is not of another PIECE", 2, "leg 0 0 0 5 9; leg 1 0 0 5 9; bars 1 = 1; wish 0 5 0 0; bars 1 = 1; bars 0 = NONE");
        test(24, "UNKNOWN", 1, "bars 1 = UNKNOWN; bars -1 = UNKNOWN; bars LEAST = UNKNOWN");
        test(25, "no LEGS: its PLANE becomes its WISH", 1, "wish 0 -99 9 -9; set 0 = 1; about 0 0 = -99; about 0 1 = 9; about 0 2 = -9; about 0 3 = -99");
        test(25, "STATE: it can not be, below LOW", 1, "leg 0 0 0 1 9; set 0 = STATE; wish 0 1 0 0; set 0 = 1; about 0 0 = 1");
        test(25, "STATE: it can not be, above HIGH", 1, "leg 0 0 0 -9 9; wish 0 10 0 0; set 0 = STATE; about 0 0 = 0; wish 0 9 0 0; set 0 = 1");
        test(25, "STATE: it can not be, STUCK", 1, "leg 0 0 0 -9 9; stick 0 2; set 0 = STATE; wish 0 2 0 0; set 0 = 1; wish 0 3 0 0; set 0 = STATE; about 0 0 = 2");
        test(25, "one that is OUT", 1, "put 0 false; wish 0 7 0 0; set 0 = 1; about 0 0 = 7");
        test(25, "UNKNOWN", 1, "set 1 = UNKNOWN; set -1 = UNKNOWN; set MOST = UNKNOWN");
    }

    private static void pairs() {
        test(26, "PAIRS 0, 1, .. (20 at most)", 2, "pair 0 1 2 0 = 0; pair 1 0 2 0 = 1; 17 times pair 0 1 2 0; pair 0 1 2 0 = 19; count 6 = 20");
        test(26, "FULL: 20", 2, "20 times pair 0 1 2 0; pair 0 1 2 0 = FULL; count 6 = 20");
        test(26, "FULL: 20, until one is told no more", 2, "20 times pair 0 1 2 0; pair 0 1 3 0 = FULL; drop 0 = 2; pair 0 1 3 0 = 19; pair 0 1 3 0 = FULL; drop 19 = 3");
        test(26, "a WAVE (2 to 60)", 2, "pair 0 1 2 0 = 0; pair 0 1 60 0 = 1; drop 1 = 60; drop 0 = 2");
        test(26, "OUTSIDE: WAVE", 2, "pair 0 1 1 0 = OUTSIDE; pair 0 1 61 0 = OUTSIDE; pair 0 1 0 0 = OUTSIDE; pair 0 1 -2 0 = OUTSIDE; pair 0 1 LEAST 0 = OUTSIDE; pair 0 1 MOST 0 = OUTSIDE");
        test(26, "a REST (0 to WAVE less 1)", 2, "pair 0 1 2 0 = 0; pair 0 1 2 1 = 1; pair 0 1 60 0 = 2; pair 0 1 60 59 = 3");
        test(26, "OUTSIDE: REST", 2, "pair 0 1 2 2 = OUTSIDE; pair 0 1 60 60 = OUTSIDE; pair 0 1 5 -1 = OUTSIDE; pair 0 1 5 LEAST = OUTSIDE; pair 0 1 5 MOST = OUTSIDE");
        test(26, "STATE: both are one", 7, "pair 0 0 2 0 = STATE; pair 6 6 60 59 = STATE");
        test(26, "UNKNOWN: pieces", 2, "pair 2 0 2 0 = UNKNOWN; pair 0 2 2 0 = UNKNOWN; pair -1 0 2 0 = UNKNOWN; pair 0 LEAST 2 0 = UNKNOWN");
        test(27, "told no more: the first, the others behind it move up", 2, "pair 0 1 7 0; pair 0 1 8 0; pair 0 1 9 0; drop 0 = 7; drop 0 = 8; drop 0 = 9; count 6 = 0");
        test(27, "told no more: the last", 2, "pair 0 1 7 0; pair 0 1 8 0; drop 1 = 8; drop 1 = UNKNOWN; drop 0 = 7");
        test(27, "told no more: the only one", 2, "pair 0 1 7 3; ways = 1; drop 0 = 7; ways = 7; drop 0 = UNKNOWN; pair 0 1 8 0 = 0");
        test(27, "told no more: one of 20", 2, "10 times pair 0 1 2 0; pair 0 1 3 0; 9 times pair 0 1 4 0; drop 10 = 3; drop 18 = 4; drop 18 = UNKNOWN; drop 9 = 2; drop 9 = 4; count 6 = 16");
        test(27, "UNKNOWN", 2, "drop 0 = UNKNOWN; pair 0 1 2 0; drop 1 = UNKNOWN; drop -1 = UNKNOWN; drop LEAST = UNKNOWN; drop MOST = UNKNOWN");
        test(28, "REACH 0 to 6; 3 at first", 2, "reach 0 = 3; reach 6 = 0; reach 3 = 6");
        test(28, "OUTSIDE", 2, "reach -1 = OUTSIDE; reach 7 = OUTSIDE; reach LEAST = OUTSIDE; reach MOST = OUTSIDE; reach 3 = 3");
    }

    private static void joins() {
        test(29, "-REACH to REACH", 2, "reach 0; ways = 1; reach 1; ways = 3; reach 6; ways = 13");
        test(29, "0 for the least of these", 1, "reach 6; ways = 1; piece; put 0 false; ways = 1; put 0 true; ways = 13");
        test(29, "one for each PIECE that is IN: none is", 2, "put 0 false; put 1 false; ways = 1");
        test(29, "1000 are told", 7, thousand() + "ways = 1000");
        test(29, "above 1000: 1001, of 1001", 5, "reach 6; pair 1 2 60 2; pair 0 4 2 0; ways = 1001; put 4 false; ways = 143");
        test(29, "above 1000: 1001, of 1008", 5, "reach 6; pair 0 1 2 0; pair 0 2 2 1; pair 0 3 2 1; pair 0 4 3 1; ways = 1001; pair 0 4 12 1; ways = 252");
        test(29, "above 1000: 1001, as many as may be", 7, "reach 6; ways = 1001; reach 0; ways = 1");
        test(29, "for each PAIR both PIECES of which are IN", 3, "pair 1 2 60 30; ways = 0; put 1 false; ways = 7; put 1 true; put 2 false; ways = 7");
        test(29, "differ by a multiple of WAVE, above and below", 2, "reach 6; pair 0 1 6 0; ways = 3; lift 1 = -6; pair 0 1 60 6; lift 1 = 6; ways = 1");
        test(29, "no way", 2, "pair 0 1 60 4; ways = 0; reach 4; ways = 1; reach 3; ways = 0");
        test(30, "in order by PIECE: from -REACH", 3, "lift 0 = 0; lift 1 = -3; lift 2 = -3; reach 6; lift 1 = -6; reach 0; lift 2 = 0");
        test(30, "in order by PIECE: the first one's lift counts first", 3, "pair 1 2 60 6; lift 1 = -3; lift 2 = 3; pair 0 2 60 3; lift 1 = -3; reach 6; lift 1 = -3; drop 1; lift 1 = -6; lift 2 = 0");
        test(30, "a REST behind the half of a WAVE is a lift below 0", 2, "pair 0 1 60 59; lift 1 = -1; drop 0; pair 1 0 60 59; lift 1 = 1; drop 0; pair 0 1 60 57; lift 1 = -3; drop 0; pair 0 1 60 56; lift 1 = NONE");
        test(30, "as far apart as may be", 3, "reach 6; pair 1 2 60 12; lift 1 = -6; lift 2 = 6; ways = 1; drop 0; pair 1 2 60 48; lift 1 = 6; lift 2 = -6; drop 0; pair 1 2 60 13; lift 1 = NONE");
        test(30, "as far apart as may be, by a third", 4, "reach 6; pair 1 3 60 12; pair 3 2 60 48; ways = 1; lift 1 = -6; lift 2 = -6; lift 3 = 6; drop 0; pair 1 3 60 48; quarrel = 1");
        test(30, "NONE: there is none", 2, "pair 0 1 2 0; pair 0 1 2 1; lift 0 = NONE; lift 1 = NONE");
        test(30, "NONE: it is OUT", 2, "put 0 false; lift 0 = NONE; lift 1 = 0; put 1 false; lift 1 = NONE");
        test(30, "UNKNOWN", 2, "lift 2 = UNKNOWN; lift -1 = UNKNOWN; lift MOST = UNKNOWN");
        test(31, "NONE", 2, "quarrel = NONE; pair 0 1 2 0; quarrel = NONE; put 0 false; quarrel = NONE; put 1 false; quarrel = NONE");
        test(31, "the first PAIR: the first of all", 2, "pair 0 1 60 30; pair 0 1 2 1; quarrel = 0; drop 0; quarrel = NONE");
        test(31, "the first PAIR: the last of 20", 2, "19 times pair 0 1 2 0; pair 1 0 4 1; quarrel = 19; drop 18; quarrel = 18; drop 18; quarrel = NONE");
        test(31, "and all ahead of it, none behind it", 3, "pair 0 1 2 0; pair 1 2 2 0; pair 2 0 2 1; pair 0 1 2 1; quarrel = 2; put 2 false; quarrel = 3; put 1 false; quarrel = NONE");
        test(31, "by REACH alone", 2, "pair 0 1 2 1; quarrel = NONE; reach 0; quarrel = 0; reach 1; quarrel = NONE");
    }

    /** 5 times 5 times 5 times 4 times 2 times 1 ways. */
    private static String thousand() {
        return "reach 6; pair 0 1 3 0; pair 0 2 3 0; pair 0 3 3 0; pair 0 4 3 1; pair 0 5 5 2; pair 0 6 60 0;";
    }

    private static void flaws() {
        test(32, "a number (-9 to 9; 0 at first)", 1, "flaw 0 0 -9 = 0; flaw 0 1 9 = 0; flaw 0 2 9 = 0; flaw 0 0 9 = -9; flaw 0 1 -9 = 9");
        test(32, "OUTSIDE: number", 1, "flaw 0 0 -10 = OUTSIDE; flaw 0 0 10 = OUTSIDE; flaw 0 0 LEAST = OUTSIDE; flaw 0 0 MOST = OUTSIDE");
        test(32, "OUTSIDE: FORMS 0 to 2", 1, "flaw 0 2 1 = 0; flaw 0 3 1 = OUTSIDE; flaw 0 -1 1 = OUTSIDE; flaw 0 LEAST 1 = OUTSIDE; flaw 0 MOST 1 = OUTSIDE");
        test(32, "UNKNOWN", 1, "flaw 1 0 0 = UNKNOWN; flaw -1 0 0 = UNKNOWN; flaw MOST 0 0 = UNKNOWN");
        test(33, "weighs each FORM (0 to 9; 1 at first)", 1, "weigh 0 0 0 = 1; weigh 0 1 9 = 1; weigh 0 2 9 = 1; weigh 0 0 9 = 0; weigh 0 1 0 = 9");
        test(33, "OUTSIDE: weight", 1, "weigh 0 0 -1 = OUTSIDE; weigh 0 0 10 = OUTSIDE; weigh 0 0 LEAST = OUTSIDE; weigh 0 0 MOST = OUTSIDE");
        test(33, "OUTSIDE: FORMS 0 to 2", 1, "weigh 0 2 5 = 1; weigh 0 3 1 = OUTSIDE; weigh 0 -1 1 = OUTSIDE; weigh 0 LEAST 1 = OUTSIDE; weigh 0 MOST 1 = OUTSIDE");
        test(33, "UNKNOWN: hole", 1, "weigh 1 0 1 = UNKNOWN; weigh -1 0 1 = UNKNOWN; weigh MOST 0 1 = UNKNOWN");
        test(33, "HOLES have the numbers of PIECES, OUT too", 7, "put 6 false; weigh 6 0 2 = 1; weigh 6 0 1 = 2; weigh 7 0 1 = UNKNOWN");
        test(34, "no FLAWS, no weight", 2, "costs 0 1 = 0; flaw 0 0 9; flaw 0 1 -9; weigh 1 0 0; weigh 1 1 0; costs 0 1 = 0; costs 0 0 = 18");
        test(34, "the sizes of its FLAWS, as dear as may be", 2, "flaw 0 0 -9; flaw 0 1 9; flaw 0 2 -9; weigh 1 0 9; weigh 1 1 9; weigh 1 2 9; costs 0 1 = 243; costs 1 0 = 0; costs 0 0 = 27");
        test(34, "of one that is OUT, in a HOLE of one that is", 2, "flaw 0 0 5; put 0 false; put 1 false; costs 0 1 = 5");
        test(34, "UNKNOWN", 2, "costs 2 0 = UNKNOWN; costs 0 2 = UNKNOWN; costs -1 0 = UNKNOWN; costs 0 LEAST = UNKNOWN");
    }

    private static void swaps() {
        test(35, "none is IN", 2, "flaw 0 0 9; put 0 false; put 1 false; swap = 0; hole 0 = NONE");
        test(35, "one is IN, in its own HOLE", 2, "flaw 1 0 9; put 0 false; swap = 9; hole 1 = 1");
        test(35, "in a HOLE of one that is IN", 2, "flaw 1 0 9; weigh 0 0 0; swap = 0; hole 1 = 0; put 0 false; swap = 9; hole 1 = 1");
        test(35, "no two in one", 3, "flaw 0 0 1; flaw 1 0 1; flaw 2 0 1; weigh 1 0 0; swap = 2; hole 0 = 0; hole 1 = 1; hole 2 = 2; weigh 1 0 9; swap = 11");
        test(35, "as dear as may be", 7, heavy() + "swap = 1701; hole 0 = 0; hole 6 = 6");
        test(36, "of like ones PIECE by PIECE the least HOLE", 7, "hole 0 = 0; hole 6 = 6; put 0 false; put 3 false; hole 1 = 1; hole 2 = 2; hole 4 = 4; hole 6 = 6");
        test(36, "of like ones PIECE by PIECE, the first ones first", 3, "flaw 2 0 1; weigh 0 0 0; weigh 1 0 0; swap = 0; hole 0 = 0; hole 1 = 2; hole 2 = 1");
        test(36, "NONE: it is OUT", 2, "put 0 false; hole 0 = NONE; hole 1 = 1; put 1 false; hole 1 = NONE");
        test(36, "UNKNOWN", 2, "hole 2 = UNKNOWN; hole -1 = UNKNOWN; hole LEAST = UNKNOWN");
    }

    private static String heavy() {
        StringBuilder rows = new StringBuilder();
        for (int piece = 0; piece < 7; piece++) {
            for (int form = 0; form < 3; form++) {
                rows.append("flaw ").append(piece).append(' ').append(form).append(" -9; weigh ").append(piece).append(' ').append(form).append(" 9;");
            }
        }
        return rows.toString();
    }

    private static void coats() {
        test(37, "years (0 to 99; 0 at first)", 1, "age 0 99 = 0; age 0 0 = 99; age 0 0 = 0");
        test(37, "OUTSIDE", 1, "age 0 100 = OUTSIDE; age 0 -1 = OUTSIDE; age 0 LEAST = OUTSIDE; age 0 MOST = OUTSIDE");
        test(37, "UNKNOWN", 1, "age 1 0 = UNKNOWN; age -1 0 = UNKNOWN; age MOST 0 = UNKNOWN");
        test(38, "LOSS (0 to 50; 10 at first)", 1, "loss 0 = 10; loss 50 = 0; loss 10 = 50");
        test(38, "OUTSIDE", 1, "loss -1 = OUTSIDE; loss 51 = OUTSIDE; loss LEAST = OUTSIDE; loss MOST = OUTSIDE");
        test(39, "100 less LOSS times AGE, 0 at least", 2, "age 0 9; plan 1 = 110; age 0 10; plan 1 = 100; age 0 11; plan 1 = 100; age 0 99; plan 1 = 100; loss 50; age 0 1; plan 1 = 150");
        test(39, "0 at least: of two without LIGHT only one is coated", 3, "age 0 11; age 1 11; plan 1 = 100; age 0 99; age 1 99; loss 50; plan 1 = 100; plan 2 = 250; loss 2; plan 1 = 100");
        test(39, "LOSS 0: 100 always", 7, "loss 0; age 0 99; plan 1 = 700; plan 4 = 2800; coat 4 0 = NONE; coat 4 3 = NONE");
        test(39, "LOSS 1: the last year that gives LIGHT", 1, "loss 1; age 0 99; plan 1 = 1; coat 1 0 = NONE; age 0 98; plan 1 = 2");
        test(39, "a year older in the next, beyond 99 too", 2, "loss 1; age 0 99; age 1 99; plan 1 = 2; plan 2 = 101; coat 2 0 = 0; coat 2 1 = 1");
        test(39, "a PLAN for 1 to 4 years", 1, "plan 1 = 100; plan 2 = 190; plan 3 = 270; plan 4 = 340");
        test(39, "OUTSIDE", 1, "plan 0 = OUTSIDE; plan 5 = OUTSIDE; plan -1 = OUTSIDE; plan LEAST = OUTSIDE; plan MOST = OUTSIDE");
        test(39, "none is IN", 2, "put 0 false; put 1 false; plan 1 = 0; plan 4 = 0; coat 4 0 = NONE; coat 4 3 = NONE");
        test(39, "others that are IN give LIGHT", 2, "plan 1 = 200; put 1 false; plan 1 = 100; put 1 true; plan 1 = 200");
        test(39, "it gives no LIGHT in that year, and has AGE 0 in the next", 1, "age 0 10; plan 1 = 0; plan 2 = 100; plan 3 = 190; plan 4 = 270; coat 4 0 = 0; coat 4 1 = NONE");
        test(40, "NONE: none", 1, "coat 1 0 = NONE; coat 4 0 = NONE; coat 4 3 = NONE");
        test(40, "of like ones by PIECE, none behind all", 2, "age 0 10; age 1 10; coat 1 0 = 0; plan 1 = 0; put 0 false; coat 1 0 = 1; put 1 false; coat 1 0 = NONE");
        test(40, "of like ones the first, year by year", 2, "age 0 10; age 1 10; plan 2 = 100; coat 2 0 = 0; coat 2 1 = 1; plan 3 = 290; coat 3 0 = 0; coat 3 1 = 1; coat 3 2 = NONE");
        test(40, "the years of the whole PLAN count", 1, "age 0 6; plan 1 = 40; coat 1 0 = NONE; plan 2 = 100; coat 2 0 = 0; coat 2 1 = NONE");
        test(40, "OUTSIDE: years", 1, "coat 0 0 = OUTSIDE; coat 5 0 = OUTSIDE; coat -1 0 = OUTSIDE; coat MOST 0 = OUTSIDE; coat LEAST LEAST = OUTSIDE");
        test(40, "OUTSIDE: i", 1, "coat 1 1 = OUTSIDE; coat 4 4 = OUTSIDE; coat 1 -1 = OUTSIDE; coat 4 MOST = OUTSIDE; coat 4 LEAST = OUTSIDE; coat 3 2 = NONE");
    }

    private static void spots() {
        test(41, "about a point (-40 to 40 each way)", 1, "light -40 -40 400 = 0; light 40 40 400 = 0; light -40 40 0 = 0; light 40 -40 0 = 0");
        test(41, "OUTSIDE: point", 1, "light -41 0 0 = OUTSIDE; light 41 0 0 = OUTSIDE; light 0 -41 0 = OUTSIDE; light 0 41 0 = OUTSIDE; light LEAST 0 0 = OUTSIDE; light 0 MOST 0 = OUTSIDE");
        test(41, "OUTSIDE: a radius (0 to 400)", 1, "light 0 0 0 = 1; light 0 0 400 = 1; light 0 0 -1 = OUTSIDE; light 0 0 401 = OUTSIDE; light 0 0 LEAST = OUTSIDE; light 0 0 MOST = OUTSIDE");
        test(41, "a square of the way to it no greater", 1, "light 3 4 24 = 0; light 3 4 25 = 1; light 3 4 26 = 1; light 20 0 400 = 1; light 20 1 400 = 0; light 1 0 0 = 0; light 0 -20 399 = 0; light 0 -20 400 = 1");
        test(41, "the point of twice its LEANS", 1, "wish 0 0 9 -9; set 0; light 18 -18 0 = 1; light 9 -9 0 = 0; light 38 -18 400 = 1; light 38 -38 400 = 0; light 39 -18 400 = 0");
        test(41, "of a PIECE that is IN", 2, "light 0 0 0 = 2; put 0 false; light 0 0 0 = 1; put 1 false; light 0 0 400 = 0");
        test(42, "no SPOTS: all points are alike", 1, "put 0 false; focus 0 0 = -40; focus 0 1 = -40; focus 0 2 = 0; focus 400 0 = -40; focus 400 1 = -40; focus 400 2 = 0");
        test(42, "of like ones by y, then x", 1, "focus 400 0 = 0; focus 400 1 = -20; focus 399 0 = -6; focus 399 1 = -19; focus 1 0 = 0; focus 1 1 = -1; focus 0 0 = 0; focus 0 1 = 0");
        test(42, "as near the edge as may be", 1, "wish 0 0 -9 -9; set 0; focus 400 0 = -18; focus 400 1 = -38; focus 0 0 = -18; focus 0 1 = -18; wish 0 0 9 9; set 0; focus 400 0 = 18; focus 400 1 = -2");
        test(42, "of like ones by y, then x: two SPOTS", 2, "wish 0 0 -9 9; set 0; wish 1 0 9 9; set 1; focus 0 0 = -18; focus 0 1 = 18; focus 0 2 = 1; focus 323 2 = 1; focus 324 0 = 0; focus 324 1 = 18; focus 324 2 = 2; put 0 false; focus 0 0 = 18");
        test(42, "a point with most", 7, "focus 0 0 = 0; focus 0 1 = 0; focus 0 2 = 7; wish 6 0 -9 0; set 6; focus 0 0 = 0; focus 0 2 = 6; put 0 false; focus 0 2 = 5");
        test(42, "a point with most: three SPOTS as far as may be from the one point", 3, "wish 0 0 9 0; set 0; wish 1 0 -9 6; set 1; wish 2 0 -9 -6; set 2;"
            + "focus 400 0 = -2; focus 400 1 = 0; focus 400 2 = 3; focus 399 2 = 2; light -2 0 400 = 3; light -2 0 399 = 0");
        test(42, "OUTSIDE: a radius (0 to 400)", 1, "focus -1 0 = OUTSIDE; focus 401 0 = OUTSIDE; focus LEAST 0 = OUTSIDE; focus MOST 0 = OUTSIDE; focus 0 2 = 1; focus 400 2 = 1");
        test(42, "OUTSIDE: what", 1, "focus 0 -1 = OUTSIDE; focus 0 3 = OUTSIDE; focus 0 LEAST = OUTSIDE; focus 0 MOST = OUTSIDE");
        test(43, "as many as may be", 7, "24 times eye 0 6 0 0 1; readAll; 20 times pair 0 6 2 0; 3 times leg 6 0 0 0 0; count 0 = 7; count 1 = 7; count 2 = 24; count 3 = 24; count 4 = 24; count 5 = 3; count 6 = 20");
        test(43, "those that are IN, EYES that WORK, READINGS of these: none", 2, "eye 0 1 0 0 1; readAll; leg 0 0 0 0 0; pair 0 1 2 0; put 0 false; put 1 false;"
            + "count 0 = 2; count 1 = 0; count 2 = 1; count 3 = 0; count 4 = 0; count 5 = 1; count 6 = 1");
        test(43, "OUTSIDE", 1, "count -1 = OUTSIDE; count 7 = OUTSIDE; count LEAST = OUTSIDE; count MOST = OUTSIDE");
    }

    public static void main(String[] args) {
        constants();
        lastCalls();
        firstRefusals();
        refusedChangesNothing();
        aNewObject();
        pieces();
        wishes();
        eyes();
        eyesTell();
        moves();
        need();
        sureness();
        readings();
        lies();
        legs();
        settings();
        pairs();
        joins();
        flaws();
        swaps();
        coats();
        spots();
        for (int promise = 0; promise <= PROMISES; promise++) {
            if (TESTS[promise] == 0) wrong("promise " + promise + " has no test of its boundaries");
        }
        System.out.println(passed + " passed, " + failed + " failed");
        if (failed > 0) System.exit(1);
    }
}
