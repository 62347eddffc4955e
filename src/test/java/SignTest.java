import java.util.List;

/** Promises 3 and 4: sign, odds. */
public final class SignTest {
    private static final Due DUE = new Due();
    private static final List<Integer> PLACES = Oracle.places();

    public static void main(String[] args) {
        signsMeanSolutions();
        signsFollowExponents();
        signsAreMultiplied();
        wrongInputsOfSign();
        oddsCountSigns();
        wrongInputsOfOdds();
        DUE.end();
    }

    private static void sign(int a, int b, int place, int want) {
        DUE.is("sign(" + a + ", " + b + ", " + place + ")", new RingForms().sign(a, b, place), want);
    }

    private static void signsMeanSolutions() {
        int[] primes = {2, 3, 5, 7, 11};
        for (int p : primes) {
            int most = p < 5 ? 12 : p + 3;
            for (int a = -most; a <= most; a++) {
                for (int b = -most; b <= most; b++) {
                    if (a != 0 && b != 0) {
                        int[] form = {a, b, -1};
                        sign(a, b, p, Oracle.goesModuloPowers(form, p) ? 1 : -1);
                        sign(a, b, 0, Oracle.goesOnTheLine(form) ? 1 : -1);
                    }
                }
            }
        }
    }

    private static void signsFollowExponents() {
        int[] numbers = {1, -1, 2, -2, 3, -3, 4, 5, -7, 8, 27, -32, 49, -125, 394, 397, -397, 399, 400, -400,
            157609, -157609, 315218, 524288, 531441, -823543, 999983, 1000000, -1000000, 999999};
        for (int a : numbers) {
            for (int b : numbers) {
                for (int place : PLACES) {
                    sign(a, b, place, Oracle.signByExponents(a, b, place));
                }
            }
        }
    }

    private static void signsAreMultiplied() {
        for (int place : PLACES) {
            for (int a = -30; a <= 30; a += 7) {
                for (int b = 1; b <= 900; b += 89) {
                    for (int c = -997; c <= 1000; c += 399) {
                        sign(a, b * c, place, new RingForms().sign(a, b, place) * new RingForms().sign(a, c, place));
                        sign(b * c, a, place, new RingForms().sign(a, b * c, place));
                    }
                }
            }
        }
    }

    private static void wrongInputsOfSign() {
        int bad = RingForms.BAD;
        int[] numbers = {0, 1000001, -1000001, Integer.MAX_VALUE, Integer.MIN_VALUE};
        for (int a : numbers) {
            sign(a, 1, 2, bad);
            sign(1, a, 2, bad);
            sign(a, 1, 0, bad);
            sign(1, a, 0, bad);
        }
        for (int place = -10; place <= 1000; place++) {
            if (!PLACES.contains(place)) {
                sign(3, 5, place, bad);
            }
        }
        sign(1, 1, Integer.MIN_VALUE, bad);
        sign(1, 1, Integer.MAX_VALUE, bad);
    }

    private static void oddsCountSigns() {
        for (int a = -400; a <= 400; a += a > -395 && a < 395 ? 13 : 1) {
            for (int b = -400; b <= 400; b += b > -395 && b < 395 ? 17 : 1) {
                if (a == 0 || b == 0) {
                    continue;
                }
                int odd = 0;
                for (int place : PLACES) {
                    odd += Oracle.signByExponents(a, b, place) < 0 ? 1 : 0;
                }
                DUE.is("odds(" + a + ", " + b + ")", new RingForms().odds(a, b), odd);
                DUE.is("odds(" + a + ", " + b + ") modulo 2", new RingForms().odds(a, b) % 2, 0);
            }
        }
    }

    private static void wrongInputsOfOdds() {
        int[] numbers = {0, 401, -401, 1000000, Integer.MAX_VALUE, Integer.MIN_VALUE};
        for (int a : numbers) {
            DUE.is("odds(" + a + ", 1)", new RingForms().odds(a, 1), RingForms.BAD);
            DUE.is("odds(1, " + a + ")", new RingForms().odds(1, a), RingForms.BAD);
        }
    }
}
