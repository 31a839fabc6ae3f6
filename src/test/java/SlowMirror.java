import java.math.BigInteger;
import java.util.ArrayList;
import java.util.Arrays;
import java.util.List;

/** The document told again in the slowest, plainest way: tests hold PieceMirror's answers against it. */
public final class SlowMirror {
    static final int UNKNOWN = -900001, OUTSIDE = -900002, STATE = -900003, FULL = -900004, NONE = -900009;

    static final class P {
        boolean in = true;
        int[] plane = new int[3];
        int[] wish = new int[3];
        int[] flaw = new int[3];
        int[] weigh = {1, 1, 1};
        int age = 0;
    }

    /** a, b, x, y, price, blind, drift, reading */
    final List<int[]> eyes = new ArrayList<>();
    /** piece, x, y, low, high, stuck */
    final List<int[]> legs = new ArrayList<>();
    /** a, b, wave, rest */
    final List<int[]> pairs = new ArrayList<>();
    final List<P> pieces = new ArrayList<>();
    int reach = 3;
    int loss = 10;

    static boolean out(int v, int low, int high) {
        return v < low || v > high;
    }

    boolean noPiece(int p) {
        return out(p, 0, pieces.size() - 1);
    }

    static int height(int[] plane, int x, int y) {
        return plane[0] + plane[1] * x + plane[2] * y;
    }

    List<Integer> in() {
        List<Integer> r = new ArrayList<>();
        for (int i = 0; i < pieces.size(); i++) {
            if (pieces.get(i).in) r.add(i);
        }
        return r;
    }

    boolean works(int[] e) {
        return e[5] == 0 && pieces.get(e[0]).in && pieces.get(e[1]).in;
    }

    List<int[]> working() {
        List<int[]> r = new ArrayList<>();
        for (int[] e : eyes) {
            if (works(e)) r.add(e);
        }
        return r;
    }

    static BigInteger[] row(int a, int b, int x, int y, int told) {
        int[] r = new int[22];
        int[] at = {1, x, y};
        for (int k = 0; k < 3; k++) {
            r[3 * a + k] += at[k];
            r[3 * b + k] -= at[k];
        }
        r[21] = told;
        BigInteger[] big = new BigInteger[22];
        for (int i = 0; i < 22; i++) big[i] = BigInteger.valueOf(r[i]);
        return big;
    }

    static int rank(List<BigInteger[]> rows, int columns) {
        List<BigInteger[]> m = new ArrayList<>();
        for (BigInteger[] r : rows) m.add(r.clone());
        int rank = 0;
        for (int c = 0; c < columns && rank < m.size(); c++) {
            int at = -1;
            for (int i = rank; i < m.size() && at < 0; i++) {
                if (m.get(i)[c].signum() != 0) at = i;
            }
            if (at < 0) continue;
            BigInteger[] top = m.get(at);
            m.set(at, m.get(rank));
            m.set(rank, top);
            for (int i = rank + 1; i < m.size(); i++) {
                BigInteger[] r = m.get(i);
                BigInteger own = r[c];
                if (own.signum() == 0) continue;
                BigInteger g = own.gcd(top[c]);
                BigInteger f = top[c].divide(g);
                BigInteger h = own.divide(g);
                for (int k = 0; k < columns; k++) r[k] = r[k].multiply(f).subtract(top[k].multiply(h));
            }
            rank++;
        }
        return rank;
    }

    static int rankOf(List<int[]> some) {
        List<BigInteger[]> rows = new ArrayList<>();
        for (int[] e : some) rows.add(row(e[0], e[1], e[2], e[3], 0));
        return rank(rows, 21);
    }

    int told(int[] e) {
        return height(pieces.get(e[0]).plane, e[2], e[3]) - height(pieces.get(e[1]).plane, e[2], e[3]) + e[6];
    }

    public int piece() {
        if (pieces.size() == 7) return FULL;
        pieces.add(new P());
        return pieces.size() - 1;
    }

    public int put(int p, boolean is) {
        if (noPiece(p)) return UNKNOWN;
        int was = pieces.get(p).in ? 1 : 0;
        pieces.get(p).in = is;
        return was;
    }

    public int wish(int p, int lift, int lean, int other) {
        if (noPiece(p)) return UNKNOWN;
        if (out(lift, -99, 99) || out(lean, -9, 9) || out(other, -9, 9)) return OUTSIDE;
        pieces.get(p).wish = new int[] {lift, lean, other};
        return 1;
    }

    public int about(int p, int what) {
        if (noPiece(p)) return UNKNOWN;
        if (out(what, 0, 5)) return OUTSIDE;
        return what < 3 ? pieces.get(p).plane[what] : pieces.get(p).wish[what - 3];
    }

    public int eye(int a, int b, int x, int y, int price) {
        if (noPiece(a) || noPiece(b)) return UNKNOWN;
        if (out(x, -9, 9) || out(y, -9, 9) || out(price, 1, 99)) return OUTSIDE;
        if (a == b) return STATE;
        if (eyes.size() == 24) return FULL;
        eyes.add(new int[] {a, b, x, y, price, 0, 0, NONE});
        return eyes.size() - 1;
    }

    boolean noEye(int e) {
        return out(e, 0, eyes.size() - 1);
    }

    public int blind(int e, boolean is) {
        if (noEye(e)) return UNKNOWN;
        int was = eyes.get(e)[5];
        eyes.get(e)[5] = is ? 1 : 0;
        return was;
    }

    public int drift(int e, int v) {
        if (noEye(e)) return UNKNOWN;
        if (out(v, -99, 99)) return OUTSIDE;
        int was = eyes.get(e)[6];
        eyes.get(e)[6] = v;
        return was;
    }

    public int tells(int e) {
        if (noEye(e)) return UNKNOWN;
        if (!works(eyes.get(e))) return STATE;
        return told(eyes.get(e));
    }

    public int moves(boolean seen) {
        int unseen = 3 * in().size() - rankOf(working());
        return seen ? 3 * in().size() - unseen : unseen;
    }

    public int unseen() {
        for (int[] e : working()) {
            if (height(pieces.get(e[0]).wish, e[2], e[3]) != height(pieces.get(e[1]).wish, e[2], e[3])) return 0;
        }
        return 1;
    }

    public int needed(int e) {
        if (noEye(e)) return UNKNOWN;
        if (!works(eyes.get(e))) return 0;
        List<int[]> some = working();
        int with = rankOf(some);
        some.remove(eyes.get(e));
        return rankOf(some) < with ? 1 : 0;
    }

    /** Numbers of the cheapest: all sets are tried where there are few eyes, else the cheap ones go first. */
    List<Integer> theCheapest() {
        List<Integer> numbers = new ArrayList<>();
        for (int i = 0; i < eyes.size(); i++) {
            if (works(eyes.get(i))) numbers.add(i);
        }
        int full = rankOf(working());
        return numbers.size() <= 8 ? cheapestOfAllSets(numbers, full) : cheapestByPrice(numbers);
    }

    private List<Integer> cheapestOfAllSets(List<Integer> numbers, int full) {
        List<Integer> best = null;
        for (int bits = 0; bits < 1 << numbers.size(); bits++) {
            List<Integer> some = new ArrayList<>();
            List<int[]> theirs = new ArrayList<>();
            for (int i = 0; i < numbers.size(); i++) {
                if ((bits >> i & 1) == 1) {
                    some.add(numbers.get(i));
                    theirs.add(eyes.get(numbers.get(i)));
                }
            }
            if (best != null && !isBefore(some, best)) continue;
            if (rankOf(theirs) == full) best = some;
        }
        return best;
    }

    private boolean isBefore(List<Integer> some, List<Integer> best) {
        int d = price(some) - price(best);
        if (d != 0) return d < 0;
        for (int i = 0; i < 24; i++) {
            if (some.contains(i) != best.contains(i)) return some.contains(i);
        }
        return false;
    }

    private List<Integer> cheapestByPrice(List<Integer> numbers) {
        numbers.sort((i, k) -> eyes.get(i)[4] != eyes.get(k)[4] ? eyes.get(i)[4] - eyes.get(k)[4] : i - k);
        List<int[]> some = new ArrayList<>();
        List<Integer> taken = new ArrayList<>();
        for (int i : numbers) {
            int was = rankOf(some);
            some.add(eyes.get(i));
            if (rankOf(some) > was) taken.add(i);
        }
        taken.sort(null);
        return taken;
    }

    int price(List<Integer> some) {
        int sum = 0;
        for (int i : some) sum += eyes.get(i)[4];
        return sum;
    }

    public int cheapest() {
        return price(theCheapest());
    }

    public int keep(int i) {
        List<Integer> all = theCheapest();
        return out(i, 0, all.size() - 1) ? NONE : all.get(i);
    }

    public int sure(int a, int b, int x, int y) {
        if (noPiece(a) || noPiece(b)) return UNKNOWN;
        if (out(x, -9, 9) || out(y, -9, 9)) return OUTSIDE;
        if (!pieces.get(a).in || !pieces.get(b).in) return STATE;
        List<int[]> some = working();
        int was = rankOf(some);
        some.add(new int[] {a, b, x, y});
        return rankOf(some) == was ? 1 : 0;
    }

    public int without(int p) {
        if (noPiece(p)) return UNKNOWN;
        if (!pieces.get(p).in) return STATE;
        pieces.get(p).in = false;
        int answer = moves(false) - (in().isEmpty() ? 0 : 3);
        pieces.get(p).in = true;
        return answer;
    }

    public int read(int e, int v) {
        if (noEye(e)) return UNKNOWN;
        if (v != NONE && out(v, -9999, 9999)) return OUTSIDE;
        int was = eyes.get(e)[7];
        eyes.get(e)[7] = v;
        return was;
    }

    public int readAll() {
        int n = 0;
        for (int[] e : eyes) {
            e[7] = works(e) ? told(e) : NONE;
            if (e[7] != NONE) n++;
        }
        return n;
    }

    boolean agreed(int[] left) {
        List<BigInteger[]> rows = new ArrayList<>();
        for (int[] e : working()) {
            if (e != left && e[7] != NONE) rows.add(row(e[0], e[1], e[2], e[3], e[7] - e[6]));
        }
        return rank(rows, 21) == rank(rows, 22);
    }

    public int agree() {
        return agreed(null) ? 1 : 0;
    }

    List<Integer> theLiars() {
        List<Integer> r = new ArrayList<>();
        if (agreed(null)) return r;
        for (int i = 0; i < eyes.size(); i++) {
            if (works(eyes.get(i)) && eyes.get(i)[7] != NONE && agreed(eyes.get(i))) r.add(i);
        }
        return r;
    }

    public int liars() {
        return theLiars().size();
    }

    public int liar(int i) {
        List<Integer> all = theLiars();
        return out(i, 0, all.size() - 1) ? NONE : all.get(i);
    }

    public int leg(int p, int x, int y, int low, int high) {
        if (noPiece(p)) return UNKNOWN;
        if (out(x, -9, 9) || out(y, -9, 9) || out(low, -999, 999) || out(high, low, 999)) return OUTSIDE;
        if (legs.stream().filter(l -> l[0] == p).count() == 3) return STATE;
        legs.add(new int[] {p, x, y, low, high, NONE});
        return legs.size() - 1;
    }

    public int stick(int leg, int length) {
        if (out(leg, 0, legs.size() - 1)) return UNKNOWN;
        int[] l = legs.get(leg);
        if (length != NONE && out(length, l[3], l[4])) return OUTSIDE;
        int was = l[5];
        l[5] = length;
        return was;
    }

    public int bars(int p) {
        if (noPiece(p)) return UNKNOWN;
        for (int i = 0; i < legs.size(); i++) {
            int[] l = legs.get(i);
            int h = height(pieces.get(p).wish, l[1], l[2]);
            if (l[0] == p && (out(h, l[3], l[4]) || l[5] != NONE && l[5] != h)) return i;
        }
        return NONE;
    }

    public int set(int p) {
        if (noPiece(p)) return UNKNOWN;
        if (bars(p) != NONE) return STATE;
        pieces.get(p).plane = pieces.get(p).wish.clone();
        return 1;
    }

    public int pair(int a, int b, int wave, int rest) {
        if (noPiece(a) || noPiece(b)) return UNKNOWN;
        if (out(wave, 2, 60) || out(rest, 0, wave - 1)) return OUTSIDE;
        if (a == b) return STATE;
        if (pairs.size() == 20) return FULL;
        pairs.add(new int[] {a, b, wave, rest});
        return pairs.size() - 1;
    }

    public int drop(int pair) {
        if (out(pair, 0, pairs.size() - 1)) return UNKNOWN;
        return pairs.remove(pair)[2];
    }

    public int reach(int v) {
        if (out(v, 0, 6)) return OUTSIDE;
        int was = reach;
        reach = v;
        return was;
    }

    /** Ways in their order, by the first so many pairs; no more than 1001 of them. */
    List<int[]> theWays(int many) {
        List<int[]> r = new ArrayList<>();
        findWays(in(), 0, new int[7], many, r);
        return r;
    }

    private void findWays(List<Integer> in, int k, int[] lifts, int many, List<int[]> r) {
        if (r.size() == 1001) return;
        if (k == in.size()) {
            r.add(lifts.clone());
            return;
        }
        int far = k == 0 ? 0 : reach;
        for (int v = -far; v <= far; v++) {
            lifts[in.get(k)] = v;
            if (holds(in.subList(0, k + 1), lifts, many)) findWays(in, k + 1, lifts, many, r);
        }
    }

    private boolean holds(List<Integer> set, int[] lifts, int many) {
        for (int[] p : pairs.subList(0, many)) {
            if (set.contains(p[0]) && set.contains(p[1]) && (lifts[p[1]] - lifts[p[0]] - p[3]) % p[2] != 0) return false;
        }
        return true;
    }

    public int ways() {
        return theWays(pairs.size()).size();
    }

    public int lift(int p) {
        if (noPiece(p)) return UNKNOWN;
        List<int[]> all = theWays(pairs.size());
        return all.isEmpty() || !pieces.get(p).in ? NONE : all.get(0)[p];
    }

    public int quarrel() {
        for (int i = 0; i < pairs.size(); i++) {
            if (theWays(i + 1).isEmpty()) return i;
        }
        return NONE;
    }

    public int flaw(int p, int form, int v) {
        if (noPiece(p)) return UNKNOWN;
        if (out(form, 0, 2) || out(v, -9, 9)) return OUTSIDE;
        int was = pieces.get(p).flaw[form];
        pieces.get(p).flaw[form] = v;
        return was;
    }

    public int weigh(int h, int form, int v) {
        if (noPiece(h)) return UNKNOWN;
        if (out(form, 0, 2) || out(v, 0, 9)) return OUTSIDE;
        int was = pieces.get(h).weigh[form];
        pieces.get(h).weigh[form] = v;
        return was;
    }

    public int costs(int p, int h) {
        if (noPiece(p) || noPiece(h)) return UNKNOWN;
        int sum = 0;
        for (int k = 0; k < 3; k++) sum += Math.abs(pieces.get(p).flaw[k]) * pieces.get(h).weigh[k];
        return sum;
    }

    private int bestCost;
    private int[] bestHoles;

    private void tryHoles(List<Integer> in, int k, int[] holes, int cost) {
        if (k == in.size()) {
            if (bestHoles == null || cost < bestCost) {
                bestCost = cost;
                bestHoles = holes.clone();
            }
            return;
        }
        for (int h : in) {
            boolean free = true;
            for (int i = 0; i < k; i++) free &= holes[in.get(i)] != h;
            if (!free) continue;
            holes[in.get(k)] = h;
            tryHoles(in, k + 1, holes, cost + costs(in.get(k), h));
        }
    }

    public int swap() {
        bestHoles = null;
        tryHoles(in(), 0, new int[7], 0);
        return bestCost;
    }

    public int hole(int p) {
        if (noPiece(p)) return UNKNOWN;
        if (!pieces.get(p).in) return NONE;
        swap();
        return bestHoles[p];
    }

    public int age(int p, int v) {
        if (noPiece(p)) return UNKNOWN;
        if (out(v, 0, 99)) return OUTSIDE;
        int was = pieces.get(p).age;
        pieces.get(p).age = v;
        return was;
    }

    public int loss(int v) {
        if (out(v, 0, 50)) return OUTSIDE;
        int was = loss;
        loss = v;
        return was;
    }

    /** The best plan's pieces, and its light last. */
    int[] thePlan(int years) {
        List<Integer> in = in();
        int choices = in.size() + 1;
        int plans = 1;
        for (int y = 0; y < years; y++) plans *= choices;
        int[] best = null;
        for (int code = 0; code < plans; code++) {
            int[] plan = new int[years + 1];
            int c = code;
            for (int y = years - 1; y >= 0; y--) {
                plan[y] = c % choices == in.size() ? NONE : in.get(c % choices);
                c /= choices;
            }
            plan[years] = lightOf(plan, years, in);
            if (best == null || plan[years] > best[years]) best = plan;
        }
        return best;
    }

    private int lightOf(int[] plan, int years, List<Integer> in) {
        int sum = 0;
        for (int p : in) {
            int age = pieces.get(p).age;
            for (int y = 0; y < years; y++) {
                if (plan[y] == p) {
                    age = 0;
                } else {
                    sum += Math.max(0, 100 - loss * age);
                    age++;
                }
            }
        }
        return sum;
    }

    public int plan(int years) {
        return out(years, 1, 4) ? OUTSIDE : thePlan(years)[years];
    }

    public int coat(int years, int i) {
        return out(years, 1, 4) || out(i, 0, years - 1) ? OUTSIDE : thePlan(years)[i];
    }

    public int light(int x, int y, int square) {
        if (out(x, -40, 40) || out(y, -40, 40) || out(square, 0, 400)) return OUTSIDE;
        int n = 0;
        for (int p : in()) {
            int dx = 2 * pieces.get(p).plane[1] - x;
            int dy = 2 * pieces.get(p).plane[2] - y;
            if (dx * dx + dy * dy <= square) n++;
        }
        return n;
    }

    public int focus(int square, int what) {
        if (out(square, 0, 400) || out(what, 0, 2)) return OUTSIDE;
        int[] best = {0, 0, -1};
        for (int y = -40; y <= 40; y++) {
            for (int x = -40; x <= 40; x++) {
                int n = light(x, y, square);
                if (n > best[2]) best = new int[] {x, y, n};
            }
        }
        return best[what];
    }

    public int count(int what) {
        if (out(what, 0, 6)) return OUTSIDE;
        int readings = (int) working().stream().filter(e -> e[7] != NONE).count();
        return Arrays.asList(pieces.size(), in().size(), eyes.size(), working().size(), readings, legs.size(), pairs.size()).get(what);
    }
}
