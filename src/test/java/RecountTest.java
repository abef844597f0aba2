import java.math.BigInteger;

/** Promise 25: how likely it is that so many votes are turned. */
public final class RecountTest {
    private static final Check CHECK = new Check();

    public static void main(String[] args) {
        likely(0, 0, 0, 1, 1);
        likely(0, 1, 16, 0, 1);
        likely(1, 1, 4, 1, 4);
        likely(2, 1, 8, 3, 4);
        likely(3, 2, 4, 5, 32);
        likely(12, 0, 7, 1, 1);
        likely(12, 12, 16, 1, 1);
        likely(12, 12, 1, 1, 281474976710656L);
        likely(12, 1, 0, 0, 1);
        likely(12, 13, 16, 0, 1);
        likely(12, 1, 15, 281474976710655L, 281474976710656L);
        likely(4, 2, 2, 323, 4096);
        byAllWays();
        CHECK.end();
    }

    private static void likely(int n, int k, int q, long above, long below) {
        WinnerDraws x = new WinnerDraws();
        String call = "recount " + n + " " + k + " " + q;
        CHECK.due(call + " above", above, () -> x.recount(n, k, q, 0));
        CHECK.due(call + " below", below, () -> x.recount(n, k, q, 1));
    }

    /** Each vote has 16 ways, of which q turn it: all that n votes can do are gone through by which are turned. */
    private static void byAllWays() {
        for (int n = 0; n <= 12; n++) {
            for (int q = 0; q <= 16; q += n == 12 ? 1 : 5) {
                for (int k = 0; k <= 13; k++) {
                    BigInteger above = BigInteger.ZERO;
                    for (int turned = 0; turned < 1 << n; turned++) {
                        int many = Integer.bitCount(turned);
                        if (many >= k) {
                            above = above.add(BigInteger.valueOf(q).pow(many)
                                    .multiply(BigInteger.valueOf(16 - q).pow(n - many)));
                        }
                    }
                    BigInteger below = BigInteger.valueOf(16).pow(n);
                    BigInteger divisor = above.gcd(below);
                    likely(n, k, q, above.divide(divisor).longValueExact(),
                            below.divide(divisor).longValueExact());
                }
            }
        }
    }
}
