import java.math.BigInteger;
import java.nio.file.Files;
import java.nio.file.Path;
import java.util.ArrayList;
import java.util.List;
import java.util.regex.Matcher;
import java.util.regex.Pattern;

/**
 * Ranks are exact, though the class counts by three primes: here are mirrors whose eyes see all (or whose readings quarrel)
 * by a number that one of the primes divides, or two of them. Who counts by too few primes takes that number for 0.
 * A number that all three divide is beyond what eyes and readings can make: no mirror can test it, so the bound at Sight is reckoned here.
 */
public final class ExactTest {
    private static final long[] PRIMES = {2147483647L, 2147483629L, 2147483587L};
    private static int passed = 0, failed = 0;

    /** By prime: 18 eyes between 7 pieces (first, second, x, y) whose determinant that prime divides. */
    private static final int[][][] SEE_ALL = {
        {{4, 5, -3, -9}, {0, 2, -6, 4}, {0, 3, 9, 2}, {5, 6, 9, 6}, {2, 5, 2, 7}, {0, 2, 3, 5}, {2, 6, -3, -8}, {1, 6, -2, -5}, {0, 6, -5, 5},
            {3, 5, 0, -9}, {1, 4, -8, -7}, {2, 6, -8, 0}, {4, 5, 5, -2}, {1, 5, -7, -8}, {1, 5, -7, 9}, {3, 4, -5, -1}, {0, 4, -7, -6}, {3, 6, 6, -2}},
        {{2, 6, -5, 0}, {1, 5, 2, 9}, {0, 4, 3, -5}, {2, 6, -7, -5}, {4, 5, 8, -5}, {3, 4, -4, 4}, {3, 5, -5, 4}, {3, 4, 8, -6}, {1, 2, 2, -5},
            {5, 6, 6, 9}, {3, 6, -4, 1}, {0, 1, 8, 2}, {0, 3, 0, -6}, {0, 3, -7, 6}, {1, 2, 9, 9}, {1, 5, -6, 8}, {0, 6, 3, 0}, {1, 3, 9, 2}},
        {{2, 5, 5, 2}, {3, 5, 6, 5}, {2, 4, 5, 3}, {0, 1, -2, -7}, {2, 3, -2, -1}, {4, 6, 4, -8}, {0, 2, -9, -5}, {1, 5, -5, -2}, {0, 6, 6, 7},
            {0, 3, 6, -1}, {0, 5, 9, -1}, {5, 6, 8, 8}, {1, 4, 7, 7}, {1, 2, -4, 1}, {4, 5, 8, 0}, {1, 6, 8, 5}, {3, 4, -9, 7}, {3, 6, -5, -1}}};

    private static final int[][] SEVEN_EYES = {
        {0, 2, -8, 8}, {1, 2, -8, 8}, {1, 2, 9, 9}, {0, 2, 9, 9}, {0, 2, 8, -9}, {1, 2, 9, -8}, {0, 1, -9, -9}};
    /** By prime: readings of these whose determinant that prime divides. */
    private static final int[][] READ_BY_ONE = {
        {-3480, 3680, -3662, 3283, -3272, 3452, 3470}, {-3489, 3670, -3657, 3288, -3270, 3456, 3470}, {-3480, 3675, -3663, 3278, -3272, 3459, 3472}};

    private static final int[][] NINETEEN_EYES = {
        {0, 3, -8, 9}, {2, 4, 7, -8}, {0, 1, -9, 8}, {3, 6, -9, 7}, {0, 2, -9, -9}, {0, 6, 8, -8}, {1, 5, 9, -9}, {4, 5, -7, -9}, {3, 5, 8, -8},
        {3, 6, 8, 8}, {1, 6, -9, -9}, {0, 1, 8, 9}, {1, 4, 8, 9}, {2, 5, -9, 9}, {4, 5, 9, 8}, {2, 3, -8, -9}, {3, 5, -8, -9}, {4, 6, -9, 9}, {2, 6, 9, 8}};
    /** By the prime that is left out: readings of these whose determinant the two others divide. */
    private static final int[][] READ_BY_TWO = {
        {-251, -168, 143, -266, 100, -123, -122, -167, 10, -19, 131, 129, 263, -115, 123, 247, 273, 141, 137},
        {-265, -162, 141, -269, 102, -109, -127, -154, 11, -21, 136, 130, 263, -117, 117, 256, 270, 136, 127},
        {-256, -159, 140, -270, 101, -116, -130, -162, 9, -22, 136, 129, 265, -114, 126, 246, 272, 141, 130}};

    private static void due(String what, long got, long want) {
        if (got == want) {
            passed++;
        } else {
            failed++;
            System.out.println(what + " answered " + got + ", due is " + want);
        }
    }

    private static PieceMirror mirror(int pieces, int[][] eyes) {
        PieceMirror m = new PieceMirror();
        for (int i = 0; i < pieces; i++) m.piece();
        for (int i = 0; i < eyes.length; i++) due("eye", m.eye(eyes[i][0], eyes[i][1], eyes[i][2], eyes[i][3], i + 1), i);
        return m;
    }

    /** Of the eyes as rows, without the columns of piece 0, the readings as the last column if there are any. */
    private static BigInteger determinant(int[][] eyes, int[] readings) {
        int n = eyes.length;
        BigInteger[][] rows = new BigInteger[n][n];
        for (int i = 0; i < n; i++) {
            BigInteger[] whole = SlowMirror.row(eyes[i][0], eyes[i][1], eyes[i][2], eyes[i][3], 0);
            for (int k = 0; k < n; k++) rows[i][k] = whole[k + 3];
            if (readings != null) rows[i][n - 1] = BigInteger.valueOf(readings[i]);
        }
        return determinant(rows);
    }

    /** Without fractions: what each step is divided by divides it. */
    private static BigInteger determinant(BigInteger[][] m) {
        BigInteger before = BigInteger.ONE;
        for (int c = 0; c < m.length - 1; c++) {
            int at = c;
            while (at < m.length && m[at][c].signum() == 0) at++;
            if (at == m.length) return BigInteger.ZERO;
            BigInteger[] top = m[at];
            m[at] = m[c];
            m[c] = top;
            for (int i = c + 1; i < m.length; i++) {
                for (int k = m.length - 1; k >= c; k--) {
                    m[i][k] = m[i][k].multiply(top[c]).subtract(m[i][c].multiply(top[k])).divide(before);
                }
            }
            before = top[c];
        }
        return m[m.length - 1][m.length - 1];
    }

    /** That a mirror is such as this test wants it: else it would test nothing. */
    private static void divides(String what, BigInteger determinant, int prime, boolean is) {
        due(what + " is not 0", determinant.signum() == 0 ? 0 : 1, 1);
        due(what + " by " + PRIMES[prime], determinant.mod(BigInteger.valueOf(PRIMES[prime])).signum() == 0 ? 1 : 0, is ? 1 : 0);
    }

    private static void seesAll(int prime) {
        int[][] eyes = SEE_ALL[prime];
        for (int i = 0; i < 3; i++) divides("determinant of eyes", determinant(eyes, null), i, i == prime);
        PieceMirror m = mirror(7, eyes);
        due("moves seen", m.moves(true), 18);
        due("moves unseen", m.moves(false), 3);
        for (int i = 0; i < 18; i++) due("needed " + i, m.needed(i), 1);
        due("cheapest", m.cheapest(), 18 * 19 / 2);
        due("keep the last", m.keep(17), 17);
        for (int i = 0; i < 7; i++) due("sure " + i, m.sure(i, (i + 3) % 7, 9, -i), 1);
        due("no reading", m.agree(), 1);
        m.blind(17, true);
        due("moves unseen without one", m.moves(false), 4);
    }

    private static void quarrel(String what, int pieces, int[][] eyes, int[] readings) {
        PieceMirror m = mirror(pieces, eyes);
        due(what + ": all that agree", m.readAll(), eyes.length);
        due(what + ": all that agree", m.agree(), 1);
        for (int i = 0; i < eyes.length; i++) due(what + ": read", m.read(i, readings[i]), 0);
        due(what + ": agree", m.agree(), 0);
        due(what + ": liars", m.liars(), eyes.length);
        due(what + ": the last liar", m.liar(eyes.length - 1), eyes.length - 1);
        m.read(0, SlowMirror.NONE);
        due(what + ": agree without one", m.agree(), 1);
    }

    /** The numbers that the class counts by are these; they are primes, and together above 19 readings of 10098 by 18 rows of length 326^(1/2). */
    private static void bound() throws Exception {
        List<Long> used = new ArrayList<>();
        Matcher m = Pattern.compile("new Stairs\\((\\d+)\\)").matcher(Files.readString(Path.of("src/main/java/PieceMirror.java")));
        while (m.find()) used.add(Long.parseLong(m.group(1)));
        due("the class counts by the primes of this test", used.equals(List.of(PRIMES[0], PRIMES[1], PRIMES[2])) ? 1 : 0, 1);
        BigInteger product = BigInteger.ONE;
        for (long prime : PRIMES) {
            due(prime + " is a prime", isPrime(prime) ? 1 : 0, 1);
            product = product.multiply(BigInteger.valueOf(prime));
        }
        BigInteger most = BigInteger.valueOf(326).pow(9).multiply(BigInteger.valueOf(19 * (9999 + 99)));
        due("the product of the primes is above all determinants", product.compareTo(most) > 0 ? 1 : 0, 1);
    }

    private static boolean isPrime(long n) {
        for (long d = 2; d * d <= n; d++) {
            if (n % d == 0) return false;
        }
        return n > 1;
    }

    public static void main(String[] args) throws Exception {
        bound();
        for (int prime = 0; prime < 3; prime++) {
            seesAll(prime);
            for (int i = 0; i < 3; i++) {
                divides("determinant of seven readings", determinant(SEVEN_EYES, READ_BY_ONE[prime]), i, i == prime);
                divides("determinant of nineteen readings", determinant(NINETEEN_EYES, READ_BY_TWO[prime]), i, i != prime);
            }
            quarrel("by one prime", 3, SEVEN_EYES, READ_BY_ONE[prime]);
            quarrel("by two primes", 7, NINETEEN_EYES, READ_BY_TWO[prime]);
        }
        System.out.println(passed + " passed, " + failed + " failed");
        if (failed > 0) System.exit(1);
    }
}
