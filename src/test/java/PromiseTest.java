/** For each promise of the document: ordinary calls, the edges that it names, and wrong arguments. */
public final class PromiseTest {
    private static final int UNKNOWN = -900001, OUTSIDE = -900002, STATE = -900003, FULL = -900004, NONE = -900009;
    private static final int LEAST = Integer.MIN_VALUE, MOST = Integer.MAX_VALUE;
    private static int passed = 0, failed = 0;

    private static void due(int promise, String what, int got, int want) {
        if (got == want) {
            passed++;
        } else {
            failed++;
            System.out.println("promise " + promise + ": " + what + " answered " + got + ", due is " + want);
        }
    }

    /** Holds answers in a row, each against what is due. */
    private static void dues(int promise, String what, int[] got, int... want) {
        due(promise, what + ": how many answers", got.length, want.length);
        for (int i = 0; i < Math.min(got.length, want.length); i++) {
            due(promise, what + ", answer " + i, got[i], want[i]);
        }
    }

    private static int[] of(int... answers) {
        return answers;
    }

    private static PieceMirror with(int pieces) {
        PieceMirror m = new PieceMirror();
        for (int i = 0; i < pieces; i++) m.piece();
        return m;
    }

    private static void settle(PieceMirror m, int piece, int lift, int lean, int other) {
        m.wish(piece, lift, lean, other);
        m.set(piece);
    }

    private static void newObject() {
        PieceMirror m = new PieceMirror();
        for (int what = 0; what < 7; what++) due(1, "count", m.count(what), 0);
        dues(1, "no piece", of(m.put(0, true), m.wish(0, 0, 0, 0), m.about(0, 0), m.eye(0, 1, 0, 0, 1)), UNKNOWN, UNKNOWN, UNKNOWN, UNKNOWN);
        dues(1, "moves of none", of(m.moves(false), m.moves(true), m.unseen(), m.cheapest(), m.keep(0)), 0, 0, 1, 0, NONE);
        dues(1, "readings of none", of(m.readAll(), m.agree(), m.liars(), m.liar(0)), 0, 1, 0, NONE);
        dues(1, "stars of none", of(m.ways(), m.quarrel(), m.lift(0)), 1, NONE, UNKNOWN);
        dues(1, "coats of none", of(m.swap(), m.plan(1), m.plan(4), m.coat(4, 3)), 0, 0, 0, NONE);
        dues(1, "spots of none", of(m.light(0, 0, 400), m.focus(9, 0), m.focus(9, 1), m.focus(9, 2)), 0, -40, -40, 0);
    }

    private static void pieces() {
        PieceMirror m = new PieceMirror();
        for (int i = 0; i < 7; i++) due(2, "piece", m.piece(), i);
        dues(2, "an eighth", of(m.piece(), m.piece(), m.count(0)), FULL, FULL, 7);
        m = with(2);
        dues(3, "put", of(m.put(0, true), m.put(0, false), m.put(0, false), m.count(1), m.put(0, true), m.count(1)), 1, 1, 0, 1, 0, 2);
        dues(3, "put none", of(m.put(-1, true), m.put(2, false), m.put(LEAST, true), m.put(MOST, true)), UNKNOWN, UNKNOWN, UNKNOWN, UNKNOWN);
    }

    private static void wishes() {
        PieceMirror m = with(2);
        dues(4, "wish", of(m.wish(1, 99, -9, 9), m.about(1, 3), m.about(1, 4), m.about(1, 5), m.about(1, 0), m.about(0, 3)), 1, 99, -9, 9, 0, 0);
        dues(4, "least", of(m.wish(1, -99, 9, -9), m.about(1, 3), m.about(1, 4), m.about(1, 5)), 1, -99, 9, -9);
        int[] bad = of(m.wish(1, 100, 0, 0), m.wish(1, -100, 0, 0), m.wish(1, 0, 10, 0), m.wish(1, 0, -10, 0), m.wish(1, 0, 0, 10),
            m.wish(1, 0, 0, -10), m.wish(1, LEAST, 0, 0), m.wish(1, 0, MOST, 0));
        for (int answer : bad) due(4, "outside", answer, OUTSIDE);
        dues(4, "unknown first", of(m.wish(2, 100, 0, 0), m.wish(-1, 0, 0, 0)), UNKNOWN, UNKNOWN);
        dues(4, "a refusal changes nothing", of(m.about(1, 3), m.about(1, 4), m.about(1, 5)), -99, 9, -9);
        settle(m, 0, 7, -2, 3);
        m.wish(0, 1, 2, 4);
        for (int what = 0; what < 6; what++) due(5, "about", m.about(0, what), new int[] {7, -2, 3, 1, 2, 4}[what]);
        dues(5, "wrong", of(m.about(0, -1), m.about(0, 6), m.about(0, LEAST), m.about(2, 6), m.about(-1, 0)), OUTSIDE, OUTSIDE, OUTSIDE, UNKNOWN, UNKNOWN);
    }

    private static void eyes() {
        PieceMirror m = with(3);
        dues(6, "eye", of(m.eye(0, 1, 9, -9, 1), m.eye(1, 0, -9, 9, 99), m.count(2)), 0, 1, 2);
        dues(6, "unknown first", of(m.eye(3, 0, 10, 0, 0), m.eye(0, -1, 10, 0, 0), m.eye(3, 3, 0, 0, 1)), UNKNOWN, UNKNOWN, UNKNOWN);
        int[] bad = of(m.eye(0, 1, 10, 0, 1), m.eye(0, 1, -10, 0, 1), m.eye(0, 1, 0, 10, 1), m.eye(0, 1, 0, -10, 1), m.eye(0, 1, 0, 0, 0),
            m.eye(0, 1, 0, 0, 100), m.eye(1, 1, 0, 0, 100), m.eye(0, 1, MOST, 0, 1), m.eye(0, 1, 0, LEAST, 1));
        for (int answer : bad) due(6, "outside ahead of state", answer, OUTSIDE);
        due(6, "both are one", m.eye(2, 2, 0, 0, 1), STATE);
        m.put(2, false);
        due(6, "a piece that is out", m.eye(2, 0, 0, 0, 1), 2);
        for (int i = 3; i < 24; i++) due(6, "eyes", m.eye(0, 1, 0, 0, 1), i);
        dues(6, "full", of(m.eye(0, 1, 0, 0, 1), m.eye(1, 1, 0, 0, 1), m.eye(0, 1, 0, 0, 0), m.eye(0, 3, 0, 0, 1), m.count(2)), FULL, STATE, OUTSIDE, UNKNOWN, 24);
    }

    private static void eyesTell() {
        PieceMirror m = with(2);
        m.eye(0, 1, 2, -3, 5);
        dues(7, "blind", of(m.blind(0, false), m.blind(0, true), m.count(3), m.blind(0, true), m.blind(0, false), m.count(3)), 0, 0, 0, 1, 1, 1);
        dues(7, "unknown", of(m.blind(1, true), m.blind(-1, true), m.blind(LEAST, true)), UNKNOWN, UNKNOWN, UNKNOWN);
        dues(8, "drift", of(m.drift(0, 99), m.drift(0, -99), m.drift(0, 4), m.drift(0, 100), m.drift(0, -100), m.drift(0, 4)), 0, 99, -99, OUTSIDE, OUTSIDE, 4);
        dues(8, "unknown first", of(m.drift(1, 100), m.drift(-1, 0)), UNKNOWN, UNKNOWN);
        settle(m, 0, 10, 2, 1);
        settle(m, 1, 1, -1, 5);
        due(9, "tells", m.tells(0), 10 + 4 - 3 - (1 - 2 - 15) + 4);
        due(9, "the other way", m.eye(1, 0, 2, -3, 5) == 1 ? m.tells(1) : 0, 1 - 2 - 15 - (10 + 4 - 3));
        m.blind(0, true);
        due(9, "blind", m.tells(0), STATE);
        m.blind(0, false);
        m.put(1, false);
        dues(9, "a piece is out", of(m.tells(0), m.tells(1), m.tells(2), m.tells(-1)), STATE, STATE, UNKNOWN, UNKNOWN);
    }

    /** Three pieces; eyes 0 to 2 on one line between 0 and 1, eye 3 off it, eye 4 to piece 2. */
    private static PieceMirror line() {
        PieceMirror m = with(3);
        m.eye(0, 1, -1, -1, 3);
        m.eye(0, 1, 0, 0, 2);
        m.eye(1, 0, 5, 5, 2);
        m.eye(0, 1, 0, 1, 50);
        m.eye(1, 2, 4, -4, 7);
        return m;
    }

    private static void moves() {
        PieceMirror m = with(1);
        dues(10, "one piece", of(m.moves(false), m.moves(true)), 3, 0);
        m.put(0, false);
        dues(10, "none in", of(m.moves(false), m.moves(true)), 0, 0);
        m = line();
        dues(10, "three on a line are two", of(m.moves(false), m.moves(true)), 5, 4);
        m.blind(3, true);
        dues(10, "all on a line", of(m.moves(false), m.moves(true)), 6, 3);
        m.put(2, false);
        dues(10, "a piece out", of(m.moves(false), m.moves(true)), 4, 2);
        m = line();
        dues(11, "no wish", of(m.unseen(), m.wish(2, 3, 0, 0), m.unseen()), 1, 1, 0);
        dues(11, "0 at the eye", of(m.wish(2, 4, -1, 0), m.unseen(), m.wish(2, 8, -1, 1), m.unseen()), 1, 1, 1, 1);
        dues(11, "all alike", of(m.wish(0, 5, 1, 2), m.wish(1, 5, 1, 2), m.unseen(), m.wish(2, 5, 1, 2), m.unseen()), 1, 1, 0, 1, 1);
        PieceMirror first = with(2);
        first.eye(0, 1, 0, 0, 99);
        dues(11, "one eye", of(first.unseen(), first.wish(0, 1, 0, 0), first.unseen()), 1, 1, 0);
        dues(13, "one eye of the highest price", of(first.cheapest(), first.keep(0)), 99, 0);
        m.wish(2, 6, 1, 2);
        dues(11, "out, or blind", of(m.unseen(), m.put(2, false), m.unseen(), m.put(2, true), m.unseen(), m.blind(4, true), m.unseen()), 0, 1, 1, 0, 0, 0, 1);
    }

    private static void need() {
        PieceMirror m = line();
        dues(12, "needed", of(m.needed(0), m.needed(1), m.needed(2), m.needed(3), m.needed(4)), 0, 0, 0, 1, 1);
        m.blind(0, true);
        dues(12, "two on a line", of(m.needed(0), m.needed(1), m.needed(2)), 0, 1, 1);
        m.put(2, false);
        dues(12, "does not work", of(m.needed(4), m.needed(3), m.needed(5), m.needed(-1)), 0, 1, UNKNOWN, UNKNOWN);
        m = line();
        dues(13, "cheapest", of(m.cheapest(), m.keep(0), m.keep(1), m.keep(2), m.keep(3), m.keep(4)), 61, 1, 2, 3, 4, NONE);
        m.blind(1, true);
        dues(13, "one blind", of(m.cheapest(), m.blind(3, true), m.cheapest(), m.blind(4, true), m.cheapest()), 62, 0, 12, 0, 5);
        m.put(0, false);
        dues(13, "none works", of(m.cheapest(), m.keep(0)), 0, NONE);
        m = with(2);
        for (int i = 0; i < 5; i++) m.eye(0, 1, i, i, 4);
        dues(14, "like ones", of(m.cheapest(), m.keep(0), m.keep(1), m.keep(2)), 8, 0, 1, NONE);
        m.eye(1, 0, 3, 0, 4);
        m.eye(1, 0, 0, 3, 1);
        dues(14, "a cheap one last", of(m.cheapest(), m.keep(0), m.keep(1), m.keep(2), m.keep(3)), 9, 0, 1, 6, NONE);
        dues(14, "no such", of(m.keep(-1), m.keep(LEAST), m.keep(MOST), m.keep(24)), NONE, NONE, NONE, NONE);
    }

    private static void sureness() {
        PieceMirror m = line();
        m.blind(3, true);
        dues(15, "on the line", of(m.sure(0, 1, 9, 9), m.sure(1, 0, -3, -3), m.sure(0, 1, 1, 0), m.sure(1, 2, 4, -4), m.sure(0, 2, 4, -4)), 1, 1, 0, 1, 0);
        m.blind(3, false);
        dues(15, "by a third", of(m.sure(0, 1, 1, 0), m.sure(0, 2, 4, -4), m.sure(2, 0, 4, -3), m.sure(2, 2, 1, 1)), 1, 1, 0, 1);
        dues(15, "wrong", of(m.sure(0, 1, 10, 0), m.sure(0, 1, 0, -10), m.sure(0, 3, 10, 0), m.sure(-1, 0, 0, 0)), OUTSIDE, OUTSIDE, UNKNOWN, UNKNOWN);
        m.put(2, false);
        dues(15, "out", of(m.sure(2, 0, 0, 0), m.sure(0, 2, 0, 0), m.sure(2, 2, 0, 0), m.sure(2, 0, 10, 0), m.sure(0, 1, 3, 7)), STATE, STATE, STATE, OUTSIDE, 1);
        m = line();
        dues(16, "without", of(m.without(2), m.without(0), m.without(1), m.put(2, false), m.without(0)), 0, 2, 3, 1, 0);
        dues(16, "wrong", of(m.without(2), m.without(3), m.without(-1)), STATE, UNKNOWN, UNKNOWN);
        m.put(0, false);
        dues(16, "the last", of(m.without(1), m.without(0)), 0, STATE);
        due(16, "seven with no eyes", with(7).without(6), 15);
    }

    private static void readings() {
        PieceMirror m = line();
        dues(17, "read", of(m.read(0, 9999), m.read(0, -9999), m.read(0, NONE), m.read(0, 5)), NONE, 9999, -9999, NONE);
        dues(17, "wrong", of(m.read(0, 10000), m.read(0, -10000), m.read(0, LEAST), m.read(0, NONE + 1), m.read(5, 10000), m.read(-1, 0)),
            OUTSIDE, OUTSIDE, OUTSIDE, OUTSIDE, UNKNOWN, UNKNOWN);
        due(17, "a refusal changes nothing", m.read(0, 5), 5);
        m.put(2, false);
        dues(17, "one that does not work", of(m.read(4, 3), m.read(4, 3), m.count(4)), NONE, 3, 1);
        settle(m, 0, 20, 1, -2);
        m.drift(1, 6);
        m.blind(2, true);
        dues(18, "readAll", of(m.readAll(), m.count(4), m.read(0, NONE), m.read(1, NONE), m.read(2, NONE), m.read(3, NONE), m.read(4, NONE)),
            3, 3, 21, 26, NONE, 18, NONE);
    }

    private static void agreement() {
        PieceMirror m = line();
        dues(19, "none", of(m.agree(), m.read(0, 2), m.agree(), m.read(1, 3), m.agree()), 1, NONE, 1, NONE, 1);
        dues(19, "three on a line", of(m.read(2, -8), m.agree(), m.read(2, -7), m.agree(), m.read(3, 77), m.agree()), NONE, 1, -8, 0, NONE, 0);
        dues(19, "drift", of(m.drift(2, 1), m.agree(), m.drift(2, 2), m.agree(), m.blind(2, true), m.agree()), 0, 1, 1, 0, 0, 1);
        PieceMirror half = with(2);
        for (int x = 0; x < 3; x++) half.eye(0, 1, 2 * x, 0, 1);
        half.eye(0, 1, 1, 0, 1);
        half.read(0, 0);
        half.read(1, 1);
        dues(19, "halves", of(half.agree(), half.read(3, 0), half.agree(), half.read(3, 1), half.agree()), 1, NONE, 0, 0, 0);
        half.read(3, NONE);
        half.read(1, NONE);
        dues(19, "fractions", of(half.read(2, 1), half.agree(), half.read(2, -1), half.agree()), NONE, 1, 1, 1);
    }

    private static void lies() {
        PieceMirror m = with(2);
        for (int i = 0; i < 4; i++) m.eye(0, 1, i, 0, 1);
        m.eye(0, 1, 0, 5, 1);
        m.readAll();
        dues(20, "all agree", of(m.liars(), m.liar(0)), 0, NONE);
        m.read(2, 9);
        dues(20, "one of four", of(m.liars(), m.liar(0), m.liar(1), m.liar(-1)), 1, 2, NONE, NONE);
        m.read(3, NONE);
        dues(20, "one of three", of(m.liars(), m.blind(0, true), m.liars(), m.blind(0, false)), 3, 0, 0, 1);
        dues(21, "each of three", of(m.liar(0), m.liar(1), m.liar(2), m.liar(3), m.liar(LEAST), m.liar(MOST)), 0, 1, 2, NONE, NONE, NONE);
        m.read(3, 1);
        dues(21, "two of four", of(m.agree(), m.liars(), m.liar(0)), 0, 0, NONE);
        m.read(3, 18);
        dues(21, "another one", of(m.liars(), m.liar(0), m.liar(1)), 1, 0, NONE);
    }

    private static void legs() {
        PieceMirror m = with(2);
        dues(22, "leg", of(m.leg(1, 9, -9, -999, 999), m.leg(0, -9, 9, 5, 5), m.leg(1, 0, 0, 0, 1), m.leg(1, 0, 0, 0, 1), m.count(5)), 0, 1, 2, 3, 4);
        dues(22, "a fourth", of(m.leg(1, 0, 0, 0, 1), m.leg(1, 10, 0, 0, 1), m.leg(0, 0, 0, 0, 1), m.count(5)), STATE, OUTSIDE, 4, 5);
        int[] bad = of(m.leg(0, 10, 0, 0, 0), m.leg(0, -10, 0, 0, 0), m.leg(0, 0, 10, 0, 0), m.leg(0, 0, -10, 0, 0), m.leg(0, 0, 0, -1000, 0),
            m.leg(0, 0, 0, 0, 1000), m.leg(0, 0, 0, 1, 0), m.leg(0, 0, 0, LEAST, MOST));
        for (int answer : bad) due(22, "outside", answer, OUTSIDE);
        dues(22, "unknown first", of(m.leg(2, 10, 0, 0, 0), m.leg(-1, 0, 0, 0, 0), m.count(5)), UNKNOWN, UNKNOWN, 5);
        dues(23, "stick", of(m.stick(1, 5), m.stick(1, 5), m.stick(1, NONE), m.stick(1, NONE), m.stick(0, -999), m.stick(0, 999)), NONE, 5, 5, NONE, NONE, -999);
        dues(23, "wrong", of(m.stick(1, 4), m.stick(1, 6), m.stick(0, 1000), m.stick(5, 4), m.stick(-1, 0), m.stick(LEAST, 0)),
            OUTSIDE, OUTSIDE, OUTSIDE, UNKNOWN, UNKNOWN, UNKNOWN);
        dues(23, "a refusal changes nothing", of(m.stick(1, NONE), m.stick(0, NONE)), NONE, 999);
    }

    private static void settings() {
        PieceMirror m = with(2);
        m.leg(1, 0, 0, 50, 60);
        m.leg(0, 1, 2, -4, 10);
        m.leg(0, -1, 0, 0, 7);
        dues(24, "bars", of(m.bars(0), m.bars(1), m.wish(0, 7, 1, 1), m.bars(0), m.wish(0, 7, 1, 2), m.bars(0)), NONE, 0, 1, NONE, 1, 1);
        dues(24, "edges", of(m.wish(0, 7, 0, 0), m.bars(0), m.wish(0, 8, 0, 0), m.bars(0), m.wish(0, -1, 0, 0), m.bars(0), m.wish(0, -5, 0, 0), m.bars(0)),
            1, NONE, 1, 2, 1, 2, 1, 1);
        dues(24, "stuck", of(m.wish(0, 3, 0, 0), m.stick(2, 3), m.bars(0), m.stick(2, 4), m.bars(0), m.stick(1, 4), m.bars(0)), 1, NONE, NONE, 3, 2, NONE, 1);
        dues(24, "unknown", of(m.bars(2), m.bars(-1)), UNKNOWN, UNKNOWN);
        dues(25, "set", of(m.set(0), m.about(0, 0), m.set(1), m.set(2), m.set(-1)), STATE, 0, STATE, UNKNOWN, UNKNOWN);
        m.stick(1, NONE);
        m.stick(2, NONE);
        dues(25, "free", of(m.set(0), m.about(0, 0), m.about(0, 3), m.wish(0, 4, 0, 1), m.about(0, 0), m.about(0, 2)), 1, 3, 3, 1, 3, 0);
        dues(25, "the other", of(m.wish(1, 60, 9, -9), m.set(1), m.about(1, 0), m.about(1, 1), m.about(1, 2), m.about(0, 0)), 1, 1, 60, 9, -9, 3);
        m.put(1, false);
        dues(25, "out", of(m.wish(1, 50, 0, 0), m.set(1), m.about(1, 0)), 1, 1, 50);
    }

    private static void pairs() {
        PieceMirror m = with(3);
        dues(26, "pair", of(m.pair(0, 1, 2, 1), m.pair(2, 0, 60, 59), m.pair(0, 1, 2, 0), m.count(6)), 0, 1, 2, 3);
        dues(26, "wrong", of(m.pair(0, 1, 1, 0), m.pair(0, 1, 61, 0), m.pair(0, 1, 5, 5), m.pair(0, 1, 5, -1), m.pair(1, 1, 5, 5), m.pair(1, 1, 5, 0),
            m.pair(3, 0, 1, 0), m.pair(0, -1, 5, 0), m.pair(0, 1, LEAST, LEAST)), OUTSIDE, OUTSIDE, OUTSIDE, OUTSIDE, OUTSIDE, STATE, UNKNOWN, UNKNOWN, OUTSIDE);
        for (int i = 3; i < 20; i++) due(26, "pairs", m.pair(0, 1, 2 + i, 0), i);
        dues(26, "full", of(m.pair(0, 1, 2, 0), m.pair(1, 1, 2, 0), m.pair(0, 1, 2, 2), m.count(6)), FULL, STATE, OUTSIDE, 20);
        dues(27, "drop", of(m.drop(1), m.count(6), m.drop(1), m.drop(17), m.drop(17), m.drop(0), m.drop(0), m.count(6)), 60, 19, 2, 21, UNKNOWN, 2, 5, 15);
        dues(27, "wrong", of(m.drop(-1), m.drop(15), m.drop(LEAST), m.drop(MOST)), UNKNOWN, UNKNOWN, UNKNOWN, UNKNOWN);
        dues(28, "reach", of(m.reach(6), m.reach(0), m.reach(7), m.reach(-1), m.reach(LEAST), m.reach(3)), 3, 6, OUTSIDE, OUTSIDE, OUTSIDE, 0);
    }

    private static void joins() {
        PieceMirror m = with(2);
        dues(29, "ways", of(m.ways(), m.reach(0), m.ways(), m.reach(6), m.ways()), 7, 3, 1, 0, 13);
        m.piece();
        m.piece();
        dues(29, "above 1000", of(m.ways(), m.put(3, false), m.ways()), 1001, 1, 169);
        m.pair(2, 1, 5, 3);
        dues(29, "a pair", of(m.ways(), m.pair(0, 1, 6, 1), m.ways()), 33, 1, 4);
        dues(30, "lift", of(m.lift(0), m.lift(1), m.lift(2), m.lift(3), m.lift(4), m.lift(-1)), 0, -5, -3, NONE, UNKNOWN, UNKNOWN);
        PieceMirror far = with(7);
        far.reach(6);
        far.pair(6, 5, 60, 12);
        dues(30, "as far as may be", of(far.lift(4), far.lift(5), far.lift(6), far.pair(5, 6, 60, 0), far.ways(), far.lift(0)), -6, 6, -6, 1, 0, NONE);
        m.put(0, false);
        dues(30, "the least of these", of(m.lift(0), m.lift(1), m.lift(2), m.ways()), NONE, 0, -3, 2);
        m.reach(1);
        dues(30, "no way", of(m.ways(), m.lift(1), m.lift(2), m.quarrel()), 0, NONE, NONE, 0);
        m.put(2, false);
        dues(30, "one in", of(m.ways(), m.lift(1), m.quarrel()), 1, 0, NONE);
        m = with(7);
        m.reach(1);
        due(29, "729", m.ways(), 729);
        m.reach(2);
        for (int i = 1; i < 4; i++) m.pair(0, i, 2, 0);
        dues(29, "exactly told", of(m.put(6, false), m.ways(), m.put(6, true), m.ways()), 1, 675, 0, 1001);
    }

    private static void quarrels() {
        PieceMirror m = with(4);
        m.pair(0, 1, 2, 1);
        m.pair(1, 2, 2, 1);
        dues(31, "no quarrel", of(m.quarrel(), m.pair(2, 0, 2, 0), m.quarrel()), NONE, 2, NONE);
        m.pair(3, 0, 4, 1);
        m.pair(2, 0, 2, 1);
        m.pair(1, 0, 2, 0);
        dues(31, "the first of two", of(m.quarrel(), m.ways(), m.drop(4), m.quarrel(), m.drop(4), m.quarrel()), 4, 0, 2, 4, 2, NONE);
        m.pair(1, 0, 2, 0);
        m.put(1, false);
        dues(31, "out", of(m.quarrel(), m.put(1, true), m.quarrel(), m.reach(0), m.quarrel()), NONE, 0, 4, 3, 0);
    }

    private static void flaws() {
        PieceMirror m = with(3);
        dues(32, "flaw", of(m.flaw(0, 0, 9), m.flaw(0, 0, -9), m.flaw(0, 2, 4), m.flaw(0, 1, 0), m.flaw(0, 0, -9)), 0, 9, 0, 0, -9);
        dues(32, "wrong", of(m.flaw(0, 3, 0), m.flaw(0, -1, 0), m.flaw(0, 0, 10), m.flaw(0, 0, -10), m.flaw(3, 3, 0), m.flaw(-1, 0, 0)),
            OUTSIDE, OUTSIDE, OUTSIDE, OUTSIDE, UNKNOWN, UNKNOWN);
        dues(33, "weigh", of(m.weigh(1, 0, 9), m.weigh(1, 0, 0), m.weigh(1, 0, 2), m.weigh(1, 2, 5)), 1, 9, 0, 1);
        dues(33, "wrong", of(m.weigh(1, 3, 0), m.weigh(1, -1, 0), m.weigh(1, 0, 10), m.weigh(1, 0, -1), m.weigh(3, 3, 0), m.weigh(-1, 0, 0), m.weigh(1, 0, 2)),
            OUTSIDE, OUTSIDE, OUTSIDE, OUTSIDE, UNKNOWN, UNKNOWN, 2);
        dues(34, "costs", of(m.costs(0, 0), m.costs(0, 1), m.costs(1, 0), m.costs(0, 3), m.costs(3, 0), m.costs(-1, 0)), 13, 38, 0, UNKNOWN, UNKNOWN, UNKNOWN);
        m.put(0, false);
        due(34, "out", m.costs(0, 1), 38);
    }

    private static void swaps() {
        PieceMirror m = with(4);
        for (int i = 0; i < 4; i++) {
            m.flaw(i, 0, 2 * i + 1);
            m.weigh(i, 0, i);
        }
        dues(35, "the heavy in the light", of(m.swap(), m.hole(0), m.hole(1), m.hole(2), m.hole(3)), 3 + 2 * 3 + 5, 3, 2, 1, 0);
        m.put(1, false);
        dues(35, "one out", of(m.swap(), m.hole(0), m.hole(1), m.hole(2), m.hole(3)), 3 + 2 * 5, 3, NONE, 2, 0);
        m = with(7);
        dues(36, "like ones", of(m.swap(), m.hole(0), m.hole(3), m.hole(6), m.hole(7), m.hole(-1)), 0, 0, 3, 6, UNKNOWN, UNKNOWN);
        m.flaw(2, 1, -1);
        m.weigh(0, 1, 0);
        dues(36, "behind one", of(m.swap(), m.hole(0), m.hole(1), m.hole(2), m.hole(3)), 0, 1, 2, 0, 3);
        m.put(0, false);
        dues(36, "holes of those that are in", of(m.swap(), m.hole(0), m.hole(1), m.hole(2)), 1, NONE, 1, 2);
    }

    private static void coats() {
        PieceMirror m = with(2);
        dues(37, "age", of(m.age(0, 99), m.age(0, 0), m.age(0, 8), m.age(0, 100), m.age(0, -1), m.age(0, 8), m.age(2, 100), m.age(-1, 0)),
            0, 99, 0, OUTSIDE, OUTSIDE, 8, UNKNOWN, UNKNOWN);
        dues(38, "loss", of(m.loss(50), m.loss(0), m.loss(51), m.loss(-1), m.loss(10)), 10, 50, OUTSIDE, OUTSIDE, 0);
        dues(39, "plan", of(m.plan(1), m.plan(2), m.plan(3), m.plan(4)), 120, 100 + 190, 100 + 190 + 170, 100 + 190 + 170 + 150);
        dues(39, "wrong", of(m.plan(0), m.plan(5), m.plan(LEAST), m.plan(MOST)), OUTSIDE, OUTSIDE, OUTSIDE, OUTSIDE);
    }

    private static void plans() {
        PieceMirror m = with(2);
        m.age(0, 8);
        dues(39, "no coat is best", of(m.plan(1), m.coat(1, 0)), 120, NONE);
        dues(39, "two years", of(m.plan(2), m.coat(2, 0), m.coat(2, 1)), 290, 0, NONE);
        dues(39, "three years", of(m.plan(3), m.coat(3, 0), m.coat(3, 1), m.coat(3, 2)), 460, 0, NONE, NONE);
        m.loss(50);
        m.age(1, 1);
        dues(39, "no light below 0", of(m.plan(1), m.plan(2), m.plan(3)), 50, 50 + 100, 50 + 100 + 150);
        dues(40, "the first of like plans", of(m.coat(1, 0), m.coat(2, 0), m.coat(2, 1), m.coat(3, 0), m.coat(3, 1), m.coat(3, 2)), 0, 0, 1, 0, 1, NONE);
        m.put(0, false);
        dues(40, "one out", of(m.plan(1), m.coat(1, 0), m.plan(2), m.coat(2, 0), m.coat(2, 1)), 50, NONE, 100, 1, NONE);
        m.put(1, false);
        dues(40, "none in", of(m.plan(4), m.coat(4, 0), m.coat(4, 3)), 0, NONE, NONE);
        dues(40, "wrong", of(m.coat(0, 0), m.coat(5, 0), m.coat(4, 4), m.coat(2, 2), m.coat(2, -1), m.coat(LEAST, LEAST)),
            OUTSIDE, OUTSIDE, OUTSIDE, OUTSIDE, OUTSIDE, OUTSIDE);
    }

    private static void spots() {
        PieceMirror m = with(3);
        settle(m, 0, 50, 9, -9);
        settle(m, 1, 0, -9, 9);
        m.wish(2, 0, 9, 9);
        dues(41, "light", of(m.light(18, -18, 0), m.light(-18, 18, 0), m.light(0, 0, 0), m.light(18, 18, 0), m.light(21, -14, 24), m.light(21, -14, 25)), 1, 1, 1, 0, 0, 1);
        dues(41, "edges", of(m.light(40, 40, 400), m.light(-40, -40, 400), m.light(18, -38, 400), m.light(18, -39, 400)), 0, 0, 1, 0);
        int[] bad = of(m.light(41, 0, 0), m.light(-41, 0, 0), m.light(0, 41, 0), m.light(0, -41, 0), m.light(0, 0, -1), m.light(0, 0, 401), m.light(LEAST, 0, 0));
        for (int answer : bad) due(41, "outside", answer, OUTSIDE);
        m.put(0, false);
        due(41, "out", m.light(18, -18, 0), 0);
        m = with(3);
        settle(m, 1, 0, 2, 0);
        settle(m, 2, 0, 1, 9);
        dues(42, "least y", of(m.focus(4, 0), m.focus(4, 1), m.focus(4, 2)), 2, 0, 2);
        dues(42, "least x", of(m.focus(5, 0), m.focus(5, 1), m.focus(5, 2), m.focus(0, 0), m.focus(0, 1), m.focus(0, 2)), 2, -1, 2, 0, 0, 1);
        dues(42, "all", of(m.focus(100, 2), m.focus(85, 2), m.focus(84, 2), m.focus(85, 0), m.focus(85, 1), m.focus(400, 1)), 3, 3, 2, 2, 9, -2);
        dues(42, "wrong", of(m.focus(-1, 0), m.focus(401, 0), m.focus(0, -1), m.focus(0, 3), m.focus(LEAST, LEAST)), OUTSIDE, OUTSIDE, OUTSIDE, OUTSIDE, OUTSIDE);
    }

    private static void counts() {
        PieceMirror m = line();
        m.leg(0, 0, 0, 0, 0);
        m.pair(0, 1, 2, 0);
        m.pair(0, 2, 2, 0);
        m.read(4, 1);
        m.read(1, 1);
        m.blind(0, true);
        for (int what = 0; what < 7; what++) due(43, "count", m.count(what), new int[] {3, 3, 5, 4, 2, 1, 2}[what]);
        m.put(2, false);
        for (int what = 0; what < 7; what++) due(43, "one out", m.count(what), new int[] {3, 2, 5, 3, 1, 1, 2}[what]);
        dues(43, "wrong", of(m.count(-1), m.count(7), m.count(LEAST), m.count(MOST)), OUTSIDE, OUTSIDE, OUTSIDE, OUTSIDE);
    }

    public static void main(String[] args) {
        newObject();
        pieces();
        wishes();
        eyes();
        eyesTell();
        moves();
        need();
        sureness();
        readings();
        agreement();
        lies();
        legs();
        settings();
        pairs();
        joins();
        quarrels();
        flaws();
        swaps();
        coats();
        plans();
        spots();
        counts();
        System.out.println(passed + " passed, " + failed + " failed");
        if (failed > 0) System.exit(1);
    }
}
