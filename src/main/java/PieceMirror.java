/** A mirror of many pieces, as ../shared/DOC.md promises it; what a call refuses changes nothing. */
public final class PieceMirror {
    public static final int UNKNOWN = -900001, OUTSIDE = -900002, STATE = -900003, FULL = -900004, NONE = -900009;

    private static final int MOST_PIECES = 7, MOST_EYES = 24, MOST_LEGS = 21, LEGS_OF_ONE = 3, MOST_PAIRS = 20;
    private static final int MOST_LIFT = 99, MOST_LEAN = 9, MOST_POINT = 9, MOST_PRICE = 99, MOST_DRIFT = 99;
    private static final int MOST_READING = 9999, MOST_LENGTH = 999, MOST_WAVE = 60, MOST_REACH = 6, MOST_WAYS = 1001;
    private static final int FORMS = 3, MOST_FLAW = 9, MOST_WEIGHT = 9, MOST_AGE = 99, MOST_LOSS = 50, MOST_YEARS = 4;
    private static final int MOST_SPOT = 40, MOST_SQUARE = 400, MOST_RADIUS = 20;

    private final Piece[] pieces = new Piece[MOST_PIECES];
    private int pieceCount;
    private final Eye[] eyes = new Eye[MOST_EYES];
    private int eyeCount;
    private final Leg[] legs = new Leg[MOST_LEGS];
    private int legCount;
    private final Pair[] pairs = new Pair[MOST_PAIRS];
    private int pairCount;
    private int reachNow = 3;
    private int lossNow = 10;
    private final Sight sight = new Sight();
    private final Stars stars = new Stars();
    private final Swaps swaps = new Swaps();
    private final Plans plans = new Plans();
    private final Spots spots = new Spots();
    private final int[] listed = new int[MOST_EYES];
    private int listedCount;

    public PieceMirror() {
    }

    // ---- pieces, eyes

    public int piece() {
        if (pieceCount >= MOST_PIECES) {
            return FULL;
        }
        pieces[pieceCount] = new Piece(pieceCount);
        pieceCount++;
        return pieceCount - 1;
    }

    public int put(int piece, boolean is) {
        Piece one = pieceOf(piece);
        if (one == null) {
            return UNKNOWN;
        }
        int was = oneIf(one.in);
        one.in = is;
        return was;
    }

    public int wish(int piece, int lift, int lean, int other) {
        Piece one = pieceOf(piece);
        if (one == null) {
            return UNKNOWN;
        }
        if (beyond(lift, MOST_LIFT) || beyond(lean, MOST_LEAN) || beyond(other, MOST_LEAN)) {
            return OUTSIDE;
        }
        one.wished.become(lift, lean, other);
        return 1;
    }

    public int about(int piece, int what) {
        Piece one = pieceOf(piece);
        if (one == null) {
            return UNKNOWN;
        }
        switch (what) {
            case 0: return one.plane.height;
            case 1: return one.plane.lean;
            case 2: return one.plane.other;
            case 3: return one.wished.height;
            case 4: return one.wished.lean;
            case 5: return one.wished.other;
            default: return OUTSIDE;
        }
    }

    public int eye(int a, int b, int x, int y, int price) {
        Piece first = pieceOf(a);
        Piece second = pieceOf(b);
        if (first == null || second == null) {
            return UNKNOWN;
        }
        if (noPoint(x, y) || price < 1 || price > MOST_PRICE) {
            return OUTSIDE;
        }
        if (a == b) {
            return STATE;
        }
        if (eyeCount >= MOST_EYES) {
            return FULL;
        }
        eyes[eyeCount] = new Eye(first, second, x, y, price);
        eyeCount++;
        return eyeCount - 1;
    }

    public int blind(int eye, boolean is) {
        Eye one = eyeOf(eye);
        if (one == null) {
            return UNKNOWN;
        }
        int was = oneIf(one.isBlind);
        one.isBlind = is;
        return was;
    }

    public int drift(int eye, int v) {
        Eye one = eyeOf(eye);
        if (one == null) {
            return UNKNOWN;
        }
        if (beyond(v, MOST_DRIFT)) {
            return OUTSIDE;
        }
        int was = one.drifted;
        one.drifted = v;
        return was;
    }

    public int tells(int eye) {
        Eye one = eyeOf(eye);
        if (one == null) {
            return UNKNOWN;
        }
        return one.works() ? one.told() : STATE;
    }

    public int moves(boolean seen) {
        int rank = rankWithout(NONE, NONE);
        return seen ? rank : 3 * countIn() - rank;
    }

    public int unseen() {
        for (int i = 0; i < eyeCount; i++) {
            if (eyes[i].works() && eyes[i].seesWishes()) {
                return 0;
            }
        }
        return 1;
    }

    public int needed(int eye) {
        Eye one = eyeOf(eye);
        if (one == null) {
            return UNKNOWN;
        }
        if (!one.works()) {
            return 0;
        }
        return oneIf(rankWithout(eye, NONE) < rankWithout(NONE, NONE));
    }

    public int cheapest() {
        return listCheapest();
    }

    public int keep(int i) {
        listCheapest();
        return listedAt(i);
    }

    public int sure(int a, int b, int x, int y) {
        Piece one = pieceOf(a);
        Piece other = pieceOf(b);
        if (one == null || other == null) {
            return UNKNOWN;
        }
        if (noPoint(x, y)) {
            return OUTSIDE;
        }
        if (!one.in || !other.in) {
            return STATE;
        }
        int rank = rankWithout(NONE, NONE);
        sight.add(a, b, x, y, 0);
        return oneIf(sight.rank() == rank);
    }

    public int without(int piece) {
        Piece one = pieceOf(piece);
        if (one == null) {
            return UNKNOWN;
        }
        if (!one.in) {
            return STATE;
        }
        int others = countIn() - 1;
        return others == 0 ? 0 : 3 * others - rankWithout(NONE, piece) - 3;
    }

    // ---- readings

    public int read(int eye, int v) {
        Eye one = eyeOf(eye);
        if (one == null) {
            return UNKNOWN;
        }
        if (v != NONE && beyond(v, MOST_READING)) {
            return OUTSIDE;
        }
        int was = one.reading;
        one.reading = v;
        return was;
    }

    public int readAll() {
        for (int i = 0; i < eyeCount; i++) {
            eyes[i].reading = eyes[i].works() ? eyes[i].told() : NONE;
        }
        return countReadings();
    }

    public int agree() {
        return oneIf(agreesWithout(NONE));
    }

    public int liars() {
        listLiars();
        return listedCount;
    }

    public int liar(int i) {
        listLiars();
        return listedAt(i);
    }

    // ---- legs

    public int leg(int piece, int x, int y, int low, int high) {
        Piece one = pieceOf(piece);
        if (one == null) {
            return UNKNOWN;
        }
        if (noPoint(x, y) || beyond(low, MOST_LENGTH) || beyond(high, MOST_LENGTH) || high < low) {
            return OUTSIDE;
        }
        if (one.legs >= LEGS_OF_ONE || legCount >= MOST_LEGS) {
            return STATE;
        }
        legs[legCount] = new Leg(piece, x, y, low, high);
        one.legs++;
        legCount++;
        return legCount - 1;
    }

    public int stick(int leg, int length) {
        if (leg < 0 || leg >= legCount) {
            return UNKNOWN;
        }
        Leg one = legs[leg];
        if (length != NONE && (length < one.low || length > one.high)) {
            return OUTSIDE;
        }
        int was = one.stuck;
        one.stuck = length;
        return was;
    }

    public int bars(int piece) {
        Piece one = pieceOf(piece);
        return one == null ? UNKNOWN : barOf(one);
    }

    public int set(int piece) {
        Piece one = pieceOf(piece);
        if (one == null) {
            return UNKNOWN;
        }
        if (barOf(one) != NONE) {
            return STATE;
        }
        one.plane.become(one.wished.height, one.wished.lean, one.wished.other);
        return 1;
    }

    // ---- stars

    public int pair(int a, int b, int wave, int rest) {
        Piece first = pieceOf(a);
        Piece second = pieceOf(b);
        if (first == null || second == null) {
            return UNKNOWN;
        }
        if (wave < 2 || wave > MOST_WAVE || rest < 0 || rest >= wave) {
            return OUTSIDE;
        }
        if (a == b) {
            return STATE;
        }
        if (pairCount >= MOST_PAIRS) {
            return FULL;
        }
        pairs[pairCount] = new Pair(first, second, wave, rest);
        pairCount++;
        return pairCount - 1;
    }

    public int drop(int pair) {
        if (pair < 0 || pair >= pairCount) {
            return UNKNOWN;
        }
        int wave = pairs[pair].wave;
        pairCount--;
        for (int i = pair; i < pairCount; i++) {
            pairs[i] = pairs[i + 1];
        }
        pairs[pairCount] = null;
        return wave;
    }

    public int reach(int v) {
        if (v < 0 || v > MOST_REACH) {
            return OUTSIDE;
        }
        int was = reachNow;
        reachNow = v;
        return was;
    }

    public int ways() {
        joinAll();
        return stars.waysUpTo(MOST_WAYS);
    }

    public int lift(int piece) {
        Piece one = pieceOf(piece);
        if (one == null) {
            return UNKNOWN;
        }
        if (!one.in) {
            return NONE;
        }
        joinAll();
        return stars.waysUpTo(1) == 0 ? NONE : stars.firstOf(piece);
    }

    public int quarrel() {
        stars.begin(pieces, pieceCount, reachNow);
        for (int i = 0; i < pairCount; i++) {
            if (pairs[i].isIn()) {
                stars.admit(pairs[i]);
                if (stars.waysUpTo(1) == 0) {
                    return i;
                }
            }
        }
        return NONE;
    }

    // ---- flaws, coats

    public int flaw(int piece, int form, int v) {
        Piece one = pieceOf(piece);
        if (one == null) {
            return UNKNOWN;
        }
        if (form < 0 || form >= FORMS || beyond(v, MOST_FLAW)) {
            return OUTSIDE;
        }
        int was = one.flaws[form];
        one.flaws[form] = v;
        return was;
    }

    public int weigh(int hole, int form, int v) {
        Piece one = pieceOf(hole);
        if (one == null) {
            return UNKNOWN;
        }
        if (form < 0 || form >= FORMS || v < 0 || v > MOST_WEIGHT) {
            return OUTSIDE;
        }
        int was = one.weights[form];
        one.weights[form] = v;
        return was;
    }

    public int costs(int piece, int hole) {
        Piece one = pieceOf(piece);
        Piece other = pieceOf(hole);
        if (one == null || other == null) {
            return UNKNOWN;
        }
        return one.costIn(other);
    }

    public int swap() {
        return swaps.best(pieces, pieceCount);
    }

    public int hole(int piece) {
        Piece one = pieceOf(piece);
        if (one == null) {
            return UNKNOWN;
        }
        if (!one.in) {
            return NONE;
        }
        swaps.best(pieces, pieceCount);
        return swaps.holeOf(piece);
    }

    public int age(int piece, int v) {
        Piece one = pieceOf(piece);
        if (one == null) {
            return UNKNOWN;
        }
        if (v < 0 || v > MOST_AGE) {
            return OUTSIDE;
        }
        int was = one.years;
        one.years = v;
        return was;
    }

    public int loss(int v) {
        if (v < 0 || v > MOST_LOSS) {
            return OUTSIDE;
        }
        int was = lossNow;
        lossNow = v;
        return was;
    }

    public int plan(int years) {
        if (years < 1 || years > MOST_YEARS) {
            return OUTSIDE;
        }
        return plans.best(pieces, pieceCount, lossNow, years);
    }

    public int coat(int years, int i) {
        if (years < 1 || years > MOST_YEARS || i < 0 || i >= years) {
            return OUTSIDE;
        }
        plans.best(pieces, pieceCount, lossNow, years);
        return plans.coatedIn(i);
    }

    // ---- spots

    public int light(int x, int y, int square) {
        if (beyond(x, MOST_SPOT) || beyond(y, MOST_SPOT) || square < 0 || square > MOST_SQUARE) {
            return OUTSIDE;
        }
        return Spots.near(pieces, pieceCount, x, y, square);
    }

    public int focus(int square, int what) {
        if (square < 0 || square > MOST_SQUARE || what < 0 || what > 2) {
            return OUTSIDE;
        }
        spots.search(pieces, pieceCount, square);
        if (what == 2) {
            return spots.most;
        }
        return what == 0 ? spots.bestX : spots.bestY;
    }

    public int count(int what) {
        switch (what) {
            case 0: return pieceCount;
            case 1: return countIn();
            case 2: return eyeCount;
            case 3: return countWorking();
            case 4: return countReadings();
            case 5: return legCount;
            case 6: return pairCount;
            default: return OUTSIDE;
        }
    }

    // ---- what several calls share

    private static int oneIf(boolean is) {
        return is ? 1 : 0;
    }

    private static boolean beyond(int v, int most) {
        return v < -most || v > most;
    }

    private static boolean noPoint(int x, int y) {
        return beyond(x, MOST_POINT) || beyond(y, MOST_POINT);
    }

    private Piece pieceOf(int number) {
        return number < 0 || number >= pieceCount ? null : pieces[number];
    }

    private Eye eyeOf(int number) {
        return number < 0 || number >= eyeCount ? null : eyes[number];
    }

    private int listedAt(int i) {
        return i < 0 || i >= listedCount ? NONE : listed[i];
    }

    private int countIn() {
        int n = 0;
        for (int i = 0; i < pieceCount; i++) {
            n += oneIf(pieces[i].in);
        }
        return n;
    }

    private int countWorking() {
        int n = 0;
        for (int i = 0; i < eyeCount; i++) {
            n += oneIf(eyes[i].works());
        }
        return n;
    }

    private int countReadings() {
        int n = 0;
        for (int i = 0; i < eyeCount; i++) {
            n += oneIf(eyes[i].counts());
        }
        return n;
    }

    /** How many moves are seen with an eye away, or a piece out (NONE: with all). */
    private int rankWithout(int eye, int piece) {
        sight.clear();
        for (int i = 0; i < eyeCount; i++) {
            if (i != eye && eyes[i].works() && !eyes[i].isAt(piece)) {
                sight.addEye(eyes[i], 0);
            }
        }
        return sight.rank();
    }

    private boolean agreesWithout(int eye) {
        sight.clear();
        for (int i = 0; i < eyeCount; i++) {
            if (i != eye && eyes[i].counts()) {
                sight.addEye(eyes[i], eyes[i].reading - eyes[i].drifted);
            }
        }
        return sight.agrees();
    }

    /**
     * Sets of eyes none of which the others replace are a matroid: to take each eye that shows more,
     * by price and then by number, gives the least price, and of like ones that with the least eyes.
     */
    private int listCheapest() {
        int sum = 0;
        int taken = 0;
        sight.clear();
        for (int price = 1; price <= MOST_PRICE; price++) {
            for (int i = 0; i < eyeCount; i++) {
                if (eyes[i].price == price && eyes[i].works()) {
                    int rank = sight.rank();
                    sight.addEye(eyes[i], 0);
                    if (sight.rank() > rank) {
                        sum += price;
                        taken |= 1 << i;
                    }
                }
            }
        }
        list(taken);
        return sum;
    }

    private void listLiars() {
        int found = 0;
        if (!agreesWithout(NONE)) {
            for (int i = 0; i < eyeCount; i++) {
                if (eyes[i].counts() && agreesWithout(i)) {
                    found |= 1 << i;
                }
            }
        }
        list(found);
    }

    /** Lists the eyes whose bits are set, by numbers. */
    private void list(int bits) {
        listedCount = 0;
        for (int i = 0; i < MOST_EYES; i++) {
            if ((bits >> i & 1) == 1) {
                listed[listedCount] = i;
                listedCount++;
            }
        }
    }

    private int barOf(Piece one) {
        for (int i = 0; i < legCount; i++) {
            if (legs[i].piece == one.number && legs[i].hinders(one.wished)) {
                return i;
            }
        }
        return NONE;
    }

    private void joinAll() {
        stars.begin(pieces, pieceCount, reachNow);
        for (int i = 0; i < pairCount; i++) {
            if (pairs[i].isIn()) {
                stars.admit(pairs[i]);
            }
        }
    }

    private static final class Plane {
        int height;
        int lean;
        int other;

        void become(int newHeight, int newLean, int newOther) {
            height = newHeight;
            lean = newLean;
            other = newOther;
        }

        int heightAt(int x, int y) {
            return height + lean * x + other * y;
        }
    }

    /** A piece, and the hole that bears its number. */
    private static final class Piece {
        final int number;
        boolean in = true;
        final Plane plane = new Plane();
        final Plane wished = new Plane();
        int legs;
        final int[] flaws = new int[FORMS];
        final int[] weights = {1, 1, 1};
        int years;

        Piece(int number) {
            this.number = number;
        }

        int costIn(Piece hole) {
            int sum = 0;
            for (int form = 0; form < FORMS; form++) {
                sum += Math.abs(flaws[form]) * hole.weights[form];
            }
            return sum;
        }

        int wayTo(int x, int y) {
            int dx = 2 * plane.lean - x;
            int dy = 2 * plane.other - y;
            return dx * dx + dy * dy;
        }
    }

    private static final class Eye {
        final Piece first;
        final Piece second;
        final int x;
        final int y;
        final int price;
        boolean isBlind;
        int drifted;
        int reading = NONE;

        Eye(Piece first, Piece second, int x, int y, int price) {
            this.first = first;
            this.second = second;
            this.x = x;
            this.y = y;
            this.price = price;
        }

        boolean works() {
            return !isBlind && first.in && second.in;
        }

        boolean counts() {
            return works() && reading != NONE;
        }

        boolean isAt(int piece) {
            return first.number == piece || second.number == piece;
        }

        int told() {
            return first.plane.heightAt(x, y) - second.plane.heightAt(x, y) + drifted;
        }

        boolean seesWishes() {
            return first.wished.heightAt(x, y) != second.wished.heightAt(x, y);
        }
    }

    private static final class Leg {
        final int piece;
        final int x;
        final int y;
        final int low;
        final int high;
        int stuck = NONE;

        Leg(int piece, int x, int y, int low, int high) {
            this.piece = piece;
            this.x = x;
            this.y = y;
            this.low = low;
            this.high = high;
        }

        boolean hinders(Plane plane) {
            int length = plane.heightAt(x, y);
            return length < low || length > high || stuck != NONE && length != stuck;
        }
    }

    private static final class Pair {
        final Piece first;
        final Piece second;
        final int wave;
        final int rest;

        Pair(Piece first, Piece second, int wave, int rest) {
            this.first = first;
            this.second = second;
            this.wave = wave;
            this.rest = rest;
        }

        boolean isIn() {
            return first.in && second.in;
        }

        /** Whether the pair lets its second piece stand so much above its first. */
        boolean allows(int difference) {
            return wave > 0 && Math.floorMod(difference - rest, wave) == 0;
        }
    }

    /** Rows brought to stairs by a prime: each step is a row whose first number that is not 0 stands alone there. */
    private static final class Stairs {
        final int prime;
        final int[][] steps = new int[Sight.WIDTH][Sight.WIDTH];
        final boolean[] filled = new boolean[Sight.WIDTH];
        final int[] left = new int[Sight.WIDTH];
        int planeSteps;
        int allSteps;

        Stairs(int prime) {
            this.prime = Math.max(prime, 2);
        }

        void clear() {
            for (int i = 0; i < Sight.WIDTH; i++) {
                filled[i] = false;
            }
            planeSteps = 0;
            allSteps = 0;
        }

        void add(int[] row) {
            for (int i = 0; i < Sight.WIDTH; i++) {
                left[i] = row[i];
            }
            for (int at = 0; at < Sight.WIDTH; at++) {
                if (left[at] != 0) {
                    if (!filled[at]) {
                        fill(at);
                        return;
                    }
                    takeOff(steps[at], at);
                }
            }
        }

        private void fill(int at) {
            filled[at] = true;
            for (int i = at; i < Sight.WIDTH; i++) {
                steps[at][i] = left[i];
            }
            allSteps++;
            if (at < Sight.READING) {
                planeSteps++;
            }
        }

        /** Sizes stay below 2^31, so that two products and their difference stay within a long. */
        private void takeOff(int[] step, int at) {
            long own = left[at];
            long its = step[at];
            for (int i = at; i < Sight.WIDTH; i++) {
                left[i] = (int) ((left[i] * its - step[i] * own) % prime);
            }
        }
    }

    /**
     * What eyes see together, as rows of numbers, one row an eye.
     * Ranks are exact: a part of 19 rows has a determinant below 2^93 (18 rows of length 326^(1/2) at most,
     * and 19 readings of 10098 at most), which is less than the product of the three primes;
     * so one that is not 0 is not 0 by one of them, and the greatest of the three ranks is the true one.
     */
    private static final class Sight {
        /** The planes of all pieces but piece 0: the columns of that are those of the others, taken off. */
        static final int READING = 3 * (MOST_PIECES - 1);
        static final int WIDTH = READING + 1;

        final Stairs[] stairs = {new Stairs(2147483647), new Stairs(2147483629), new Stairs(2147483587)};
        final int[] row = new int[WIDTH];

        void clear() {
            for (int i = 0; i < stairs.length; i++) {
                stairs[i].clear();
            }
        }

        void addEye(Eye eye, int told) {
            add(eye.first.number, eye.second.number, eye.x, eye.y, told);
        }

        void add(int first, int second, int x, int y, int told) {
            for (int i = 0; i < WIDTH; i++) {
                row[i] = 0;
            }
            addPoint(first, x, y, 1);
            addPoint(second, x, y, -1);
            row[READING] = told;
            for (int i = 0; i < stairs.length; i++) {
                stairs[i].add(row);
            }
        }

        private void addPoint(int piece, int x, int y, int sign) {
            int at = 3 * (piece - 1);
            if (at >= 0 && at + 2 < READING) {
                row[at] += sign;
                row[at + 1] += sign * x;
                row[at + 2] += sign * y;
            }
        }

        int rank() {
            int most = 0;
            for (int i = 0; i < stairs.length; i++) {
                most = Math.max(most, stairs[i].planeSteps);
            }
            return most;
        }

        boolean agrees() {
            int most = 0;
            for (int i = 0; i < stairs.length; i++) {
                most = Math.max(most, stairs[i].allSteps);
            }
            return most == rank();
        }
    }

    /** Lifts that pairs allow. A piece that is out has the one lift 0, so that it makes no way more or less. */
    private static final class Stars {
        static final int FAR = 2 * MOST_REACH;
        static final int ALL = (1 << 2 * FAR + 1) - 1;
        static final int PASSES = 1000;

        /** By two pieces: bit d + FAR is set, if the second may stand d above the first. */
        final int[][] fits = new int[MOST_PIECES][MOST_PIECES];
        /** By how many pieces have their lift, and by piece: bit v + MOST_REACH is set, if it may still have lift v. */
        final int[][] open = new int[MOST_PIECES][MOST_PIECES];
        final int[] now = new int[MOST_PIECES];
        final int[] first = new int[MOST_PIECES];
        int found;
        int limit;

        void begin(Piece[] pieces, int pieceCount, int reach) {
            int zero = 1 << MOST_REACH;
            int all = (1 << 2 * reach + 1) - 1 << MOST_REACH - reach;
            boolean isLeast = true;
            for (int i = 0; i < MOST_PIECES; i++) {
                boolean in = i < pieceCount && pieces[i].in;
                open[0][i] = in && !isLeast ? all : zero;
                if (in) {
                    isLeast = false;
                }
                for (int j = 0; j < MOST_PIECES; j++) {
                    fits[i][j] = ALL;
                }
            }
        }

        void admit(Pair pair) {
            int bits = 0;
            for (int d = -FAR; d <= FAR; d++) {
                if (pair.allows(d)) {
                    bits |= 1 << d + FAR;
                }
            }
            restrict(pair.first.number, pair.second.number, bits);
        }

        int waysUpTo(int most) {
            found = 0;
            limit = most;
            if (settleByThirds()) {
                join(0);
            }
            return found;
        }

        int firstOf(int piece) {
            return first[piece];
        }

        private boolean restrict(int i, int j, int bits) {
            int left = fits[i][j] & bits;
            if (left == fits[i][j]) {
                return false;
            }
            fits[i][j] = left;
            fits[j][i] = turned(left);
            return true;
        }

        /** The differences as seen from the other piece. */
        private static int turned(int some) {
            int bits = 0;
            for (int d = -FAR; d <= FAR; d++) {
                if ((some >> d + FAR & 1) == 1) {
                    bits |= 1 << FAR - d;
                }
            }
            return bits;
        }

        /**
         * Leaves two pieces only differences that a third allows; false if two have none left.
         * The search alone would find a quarrel of late pieces too, but anew for each lift of the early ones.
         */
        private boolean settleByThirds() {
            boolean isNew = true;
            for (int pass = 0; pass < PASSES && isNew; pass++) {
                isNew = false;
                for (int third = 0; third < MOST_PIECES; third++) {
                    for (int i = 0; i < MOST_PIECES - 1; i++) {
                        for (int j = i + 1; j < MOST_PIECES; j++) {
                            if (fits[i][j] == 0) {
                                return false;
                            }
                            if (fits[i][third] != ALL && fits[third][j] != ALL) {
                                isNew |= restrict(i, j, sums(fits[i][third], fits[third][j]));
                            }
                        }
                    }
                }
            }
            return true;
        }

        private static int sums(int some, int others) {
            int bits = 0;
            for (int d = -FAR; d <= FAR; d++) {
                if ((some >> d + FAR & 1) == 1) {
                    bits |= d < 0 ? others >> -d : others << d;
                }
            }
            return bits & ALL;
        }

        private void join(int piece) {
            if (piece >= MOST_PIECES) {
                if (found == 0) {
                    System.arraycopy(now, 0, first, 0, MOST_PIECES);
                }
                found++;
                return;
            }
            for (int v = -MOST_REACH; v <= MOST_REACH && found < limit; v++) {
                if ((open[piece][piece] >> v + MOST_REACH & 1) == 1 && narrow(piece, v)) {
                    now[piece] = v;
                    join(piece + 1);
                }
            }
        }

        /** Leaves the pieces behind only lifts that fit to this one; false if a piece has none left. */
        private boolean narrow(int piece, int v) {
            for (int j = piece + 1; j < MOST_PIECES; j++) {
                int left = open[piece][j] & fits[piece][j] >> MOST_REACH - v;
                if (left == 0) {
                    return false;
                }
                open[piece + 1][j] = left;
            }
            return true;
        }
    }

    private static final class Swaps {
        /** More than all pieces can cost. */
        static final int DEAR = 1 << 20;

        final Piece[] in = new Piece[MOST_PIECES];
        int inCount;
        /** By the set of holes that are taken, by as many first pieces: what the others cost at least. */
        final int[] least = new int[1 << MOST_PIECES];
        final int[] holes = new int[MOST_PIECES];

        int best(Piece[] pieces, int pieceCount) {
            inCount = 0;
            for (int i = 0; i < pieceCount; i++) {
                if (pieces[i].in) {
                    in[inCount] = pieces[i];
                    inCount++;
                }
            }
            int all = (1 << inCount) - 1;
            least[all] = 0;
            for (int taken = all - 1; taken >= 0; taken--) {
                int at = firstBest(taken);
                least[taken] = costWith(taken, at);
            }
            int taken = 0;
            for (int i = 0; i < inCount; i++) {
                int at = firstBest(taken);
                holes[in[i].number] = in[at].number;
                taken |= 1 << at;
            }
            return least[0];
        }

        int holeOf(int piece) {
            return holes[piece];
        }

        /** The least hole for the next piece by which it and all behind it cost least. */
        private int firstBest(int taken) {
            int best = 0;
            int cost = DEAR;
            for (int at = 0; at < inCount; at++) {
                if ((taken >> at & 1) == 0 && costWith(taken, at) < cost) {
                    best = at;
                    cost = costWith(taken, at);
                }
            }
            return best;
        }

        private int costWith(int taken, int at) {
            return in[Integer.bitCount(taken)].costIn(in[at]) + least[taken | 1 << at];
        }
    }

    private static final class Plans {
        final int[] numbers = new int[MOST_PIECES];
        int inCount;
        /** The year in which a coat is new: that of an old one lies behind the first year. */
        final int[] newIn = new int[MOST_PIECES];
        final int[] now = new int[MOST_YEARS];
        final int[] coated = new int[MOST_YEARS];
        int loss;
        int years;
        int most;

        int best(Piece[] pieces, int pieceCount, int lossNow, int forYears) {
            inCount = 0;
            for (int i = 0; i < pieceCount; i++) {
                if (pieces[i].in) {
                    numbers[inCount] = i;
                    newIn[inCount] = -pieces[i].years;
                    inCount++;
                }
            }
            loss = lossNow;
            years = Math.min(forYears, MOST_YEARS);
            most = -1;
            follow(0, 0);
            return most;
        }

        int coatedIn(int year) {
            return coated[year];
        }

        /** Goes by piece, none behind all, and takes only what is better: so the first of like plans stays. */
        private void follow(int year, int sum) {
            if (year >= years) {
                if (sum > most) {
                    most = sum;
                    System.arraycopy(now, 0, coated, 0, MOST_YEARS);
                }
                return;
            }
            int ofAll = sum;
            for (int i = 0; i < inCount; i++) {
                ofAll += lightOf(i, year);
            }
            for (int i = 0; i < inCount; i++) {
                int was = newIn[i];
                int dark = lightOf(i, year);
                now[year] = numbers[i];
                newIn[i] = year + 1;
                follow(year + 1, ofAll - dark);
                newIn[i] = was;
            }
            now[year] = NONE;
            follow(year + 1, ofAll);
        }

        private int lightOf(int i, int year) {
            return Math.max(0, 100 - loss * (year - newIn[i]));
        }
    }

    private static final class Spots {
        int bestX;
        int bestY;
        int most;

        static int near(Piece[] pieces, int pieceCount, int x, int y, int square) {
            int n = 0;
            for (int i = 0; i < pieceCount; i++) {
                if (pieces[i].in && pieces[i].wayTo(x, y) <= square) {
                    n++;
                }
            }
            return n;
        }

        /** The first point of a row with most light is one at which a spot comes within the radius. */
        void search(Piece[] pieces, int pieceCount, int square) {
            bestX = -MOST_SPOT;
            bestY = -MOST_SPOT;
            most = 0;
            for (int y = -MOST_SPOT; y <= MOST_SPOT; y++) {
                for (int i = 0; i < pieceCount; i++) {
                    int dy = 2 * pieces[i].plane.other - y;
                    if (pieces[i].in && dy * dy <= square) {
                        int x = 2 * pieces[i].plane.lean - rootOf(square - dy * dy);
                        take(x, y, near(pieces, pieceCount, x, y, square));
                    }
                }
            }
        }

        private void take(int x, int y, int light) {
            if (light > most || light == most && y == bestY && x < bestX) {
                bestX = x;
                bestY = y;
                most = light;
            }
        }

        private static int rootOf(int square) {
            int root = 0;
            while (root < MOST_RADIUS && (root + 1) * (root + 1) <= square) {
                root++;
            }
            return root;
        }
    }
}
