/** Promise 2: free. */
public final class FreeTest {
    private static final int LIMIT = 1000000;

    public static void main(String[] args) {
        Due due = new Due();
        int[] due1 = freeOfAll();
        for (int a = 1; a <= LIMIT; a += a < 3000 || a > LIMIT - 3000 ? 1 : 37) {
            due.is("free(" + a + ")", new RingForms().free(a), due1[a]);
            due.is("free(" + -a + ")", new RingForms().free(-a), -due1[a]);
        }
        int[] bad = {0, LIMIT + 1, -LIMIT - 1, Integer.MAX_VALUE, Integer.MIN_VALUE};
        for (int a : bad) {
            due.is("free(" + a + ")", new RingForms().free(a), 0);
        }
        due.end();
    }

    /** Each prime of a number, taken twice, goes: a sieve by the least prime of each number. */
    private static int[] freeOfAll() {
        int[] leastPrime = new int[LIMIT + 1];
        for (int p = 2; p <= LIMIT; p++) {
            if (leastPrime[p] == 0) {
                for (int m = p; m <= LIMIT; m += p) {
                    if (leastPrime[m] == 0) {
                        leastPrime[m] = p;
                    }
                }
            }
        }
        int[] free = new int[LIMIT + 1];
        free[1] = 1;
        for (int a = 2; a <= LIMIT; a++) {
            int p = leastPrime[a];
            int before = free[a / p];
            free[a] = before % p == 0 ? before / p : before * p;
        }
        return free;
    }
}
