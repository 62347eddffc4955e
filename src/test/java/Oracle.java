import java.util.ArrayList;
import java.util.List;

/** What the document's words mean, worked out by trial and not by the formulas of the class. */
final class Oracle {
    private Oracle() {
    }

    static List<Integer> places() {
        List<Integer> places = new ArrayList<>();
        places.add(0);
        for (int p = 2; p <= 397; p++) {
            if (isPrime(p)) {
                places.add(p);
            }
        }
        return places;
    }

    static boolean isPrime(int p) {
        for (int d = 2; d * d <= p; d++) {
            if (p % d == 0) {
                return false;
            }
        }
        return p >= 2;
    }

    static int power(long a, int p) {
        int power = 0;
        for (long rest = Math.abs(a); rest % p == 0; rest /= p) {
            power++;
        }
        return power;
    }

    static boolean isSquareModulo(long u, int p) {
        for (long r = 0; r < p; r++) {
            if (Math.floorMod(r * r - u, (long) p) == 0) {
                return true;
            }
        }
        return false;
    }

    /** SIGN by the document's exponents, with plain powers of -1. */
    static int signByExponents(int a, int b, int place) {
        if (place == 0) {
            return a < 0 && b < 0 ? -1 : 1;
        }
        int i = power(a, place);
        int k = power(b, place);
        long u = a;
        long w = b;
        for (int s = 0; s < i; s++) {
            u /= place;
        }
        for (int s = 0; s < k; s++) {
            w /= place;
        }
        long exponent;
        if (place == 2) {
            exponent = (u - 1) / 2 * ((w - 1) / 2) + i * ((w * w - 1) / 8) + k * ((u * u - 1) / 8);
        } else {
            exponent = (long) i * k * (place - 1) / 2
                    + (isSquareModulo(u, place) ? 0 : k) + (isSquareModulo(w, place) ? 0 : i);
        }
        return exponent % 2 == 0 ? 1 : -1;
    }

    /** H of coefficients. */
    static int signs(int[] row, int place) {
        int signs = 1;
        for (int i = 0; i < row.length; i++) {
            for (int k = 0; k < i; k++) {
                signs *= signByExponents(row[k], row[i], place);
            }
        }
        return signs;
    }

    /**
     * Whether coefficients times squares are 0 modulo a power of p, not all numbers multiples of p. The power is
     * beyond twice what Hensel's step needs for these coefficients, so the answer is that for each power.
     */
    static boolean goesModuloPowers(int[] coefficients, int p) {
        int most = 0;
        for (int c : coefficients) {
            most = Math.max(most, power(2L * c, p));
        }
        int modulus = 1;
        for (int i = 0; i < 2 * most + 1; i++) {
            modulus *= p;
        }
        // Sums reached so far: by multiples of p alone, or by others among them.
        boolean[] lame = new boolean[modulus];
        boolean[] fit = new boolean[modulus];
        lame[0] = true;
        for (int c : coefficients) {
            boolean[] nextLame = new boolean[modulus];
            boolean[] nextFit = new boolean[modulus];
            boolean[][] terms = terms(c, p, modulus);
            for (int t = 0; t < modulus; t++) {
                if (!terms[0][t] && !terms[1][t]) {
                    continue;
                }
                for (int s = 0; s < modulus; s++) {
                    int sum = (s + t) % modulus;
                    nextLame[sum] |= lame[s] && terms[0][t];
                    nextFit[sum] |= fit[s] || lame[s] && terms[1][t];
                }
            }
            lame = nextLame;
            fit = nextFit;
        }
        return fit[0];
    }

    private static boolean[][] terms(int c, int p, int modulus) {
        boolean[][] terms = new boolean[2][modulus];
        for (long x = 0; x < modulus; x++) {
            int t = (int) Math.floorMod(c * (x * x % modulus), (long) modulus);
            terms[x % p == 0 ? 0 : 1][t] = true;
        }
        return terms;
    }

    static boolean goesOnTheLine(int[] coefficients) {
        boolean above = false;
        boolean below = false;
        for (int c : coefficients) {
            above |= c > 0;
            below |= c < 0;
        }
        return above && below;
    }

    /** Whether whole numbers, not all 0, make it 0, all but the last up to a size. */
    static boolean isNoughtWithin(int[] c, int size) {
        return reaches(c, 0, 0, false, size);
    }

    private static boolean reaches(int[] c, int from, long sum, boolean some, int size) {
        if (from == c.length - 1) {
            if (sum % c[from] != 0 || -sum / c[from] < 0) {
                return false;
            }
            long square = -sum / c[from];
            long root = Math.round(Math.sqrt((double) square));
            return root * root == square && (some || root != 0);
        }
        for (int x = 0; x <= size; x++) {
            if (reaches(c, from + 1, sum + (long) c[from] * x * x, some || x != 0, size)) {
                return true;
            }
        }
        return false;
    }
}
