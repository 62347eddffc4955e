import java.math.BigInteger;
import java.util.Arrays;
import java.util.List;
import java.util.Random;

/** Promises 5, 6, 7, 8 and 20: form, at, whole, hold, count. */
public final class ShelfTest {
    private static final Due DUE = new Due();
    private static final List<Integer> PLACES = Oracle.places();
    private static final int[] NO_SHELVES = {-1, 4, 5, 100, Integer.MIN_VALUE, Integer.MAX_VALUE};

    public static void main(String[] args) {
        formsAreKept();
        refusedFormsChangeNothing();
        othersAreNotLookedAt();
        edgesOfCoefficients();
        wrongInputs();
        DUE.end();
    }

    private static void formsAreKept() {
        Random random = new Random(5);
        for (int object = 0; object < 100; object++) {
            formsAreKept(random, object % 5 == 0);
        }
    }

    private static void formsAreKept(Random random, boolean signsToo) {
        RingForms forms = new RingForms();
        int[][] kept = {{1}, {1}, {1}, {1}};
        for (int round = 0; round < 4; round++) {
            int shelf = random.nextInt(4);
            int[] row = new int[1 + random.nextInt(5)];
            for (int i = 0; i < row.length; i++) {
                row[i] = (1 + random.nextInt(400)) * (random.nextBoolean() ? 1 : -1);
            }
            kept[shelf] = row;
            DUE.is("form of " + row.length, Due.put(forms, shelf, row), row.length);
            for (int i = 0; i < 4; i++) {
                look(forms, i, kept[i], signsToo && round == 3);
            }
        }
    }

    private static void look(RingForms forms, int shelf, int[] row, boolean signsToo) {
        long product = 1;
        int above = 0;
        for (int i = 0; i < row.length; i++) {
            DUE.is("at(" + shelf + ", " + i + ")", forms.at(shelf, i), row[i]);
            product *= row[i];
            above += row[i] > 0 ? 1 : 0;
        }
        DUE.is("at(" + shelf + ", n)", forms.at(shelf, row.length), 0);
        DUE.is("count(" + shelf + ", 0)", forms.count(shelf, 0), row.length);
        DUE.is("count(" + shelf + ", 1)", forms.count(shelf, 1), above);
        DUE.is("whole(" + shelf + ", 0)", forms.whole(shelf, 0), product);
        lookAtFree(forms.whole(shelf, 1), product);
        if (signsToo) {
            for (int place : PLACES) {
                DUE.is("hold(" + shelf + ", " + place + ")", forms.hold(shelf, place), Oracle.signs(row, place));
            }
        }
    }

    private static void lookAtFree(long free, long product) {
        BigInteger square = BigInteger.valueOf(free).multiply(BigInteger.valueOf(product));
        DUE.holds("FREE " + free + " is of the sign of " + product, (free < 0) == (product < 0) && free != 0);
        DUE.holds("FREE " + free + " gives a square with " + product,
                square.signum() > 0 && square.sqrtAndRemainder()[1].signum() == 0);
        for (int p : PLACES) {
            DUE.holds("FREE " + free + " has " + p + " once at most", p == 0 || free % (p * p) != 0);
        }
    }

    private static void refusedFormsChangeNothing() {
        int[] row = {3, -5, 7};
        int[] wrong = {0, 401, -401, Integer.MIN_VALUE, Integer.MAX_VALUE};
        for (int w : wrong) {
            RingForms forms = new RingForms();
            Due.put(forms, 1, row);
            for (int n = 1; n <= 5; n++) {
                for (int i = 0; i < n; i++) {
                    int[] bad = {2, 2, 2, 2, 2};
                    bad[i] = w;
                    String call = "form of " + n + " with " + w + " at " + i;
                    DUE.is(call, Due.put(forms, 1, Arrays.copyOf(bad, n)), RingForms.BAD);
                    look(forms, 1, row, false);
                }
            }
        }
        RingForms forms = new RingForms();
        Due.put(forms, 1, row);
        int[] wrongSizes = {0, -1, 6, 7, Integer.MIN_VALUE, Integer.MAX_VALUE};
        for (int n : wrongSizes) {
            DUE.is("form(1, " + n + ", ..)", forms.form(1, n, 2, 2, 2, 2, 2), RingForms.BAD);
            look(forms, 1, row, false);
        }
        for (int shelf : NO_SHELVES) {
            DUE.is("form(" + shelf + ", ..)", forms.form(shelf, 2, 2, 2, 2, 2, 2), RingForms.BAD);
        }
        look(forms, 0, new int[] {1}, false);
        look(forms, 2, new int[] {1}, false);
        look(forms, 3, new int[] {1}, false);
    }

    private static void othersAreNotLookedAt() {
        RingForms forms = new RingForms();
        DUE.is("form(2, 1, 5, ..)", forms.form(2, 1, 5, 0, 401, Integer.MIN_VALUE, 0), 1);
        look(forms, 2, new int[] {5}, true);
        DUE.is("form(2, 4, ..)", forms.form(2, 4, 1, 2, 3, 4, 1000), 4);
        look(forms, 2, new int[] {1, 2, 3, 4}, true);
        DUE.is("form(2, 2, ..)", forms.form(2, 2, 6, -7, 0, 0, 0), 2);
        look(forms, 2, new int[] {6, -7}, true);
    }

    private static void edgesOfCoefficients() {
        RingForms forms = new RingForms();
        int[] greatest = {400, 400, 400, 400, -400};
        DUE.is("form of the greatest", Due.put(forms, 0, greatest), 5);
        look(forms, 0, greatest, true);
        DUE.is("D of the greatest", forms.whole(0, 0), -10240000000000L);
        DUE.is("FREE of the greatest", forms.whole(0, 1), -1);
        int[] primes = {397, 389, 383, 379, 373};
        Due.put(forms, 0, primes);
        look(forms, 0, primes, true);
        DUE.is("FREE of primes", forms.whole(0, 1), 397L * 389 * 383 * 379 * 373);
        DUE.is("H of one alone", new RingForms().hold(0, 397), 1);
    }

    private static void wrongInputs() {
        RingForms forms = new RingForms();
        for (int shelf : NO_SHELVES) {
            DUE.is("at(" + shelf + ", 0)", forms.at(shelf, 0), 0);
            DUE.is("whole(" + shelf + ", 0)", forms.whole(shelf, 0), 0);
            DUE.is("whole(" + shelf + ", 1)", forms.whole(shelf, 1), 0);
            DUE.is("hold(" + shelf + ", 2)", forms.hold(shelf, 2), RingForms.BAD);
            DUE.is("count(" + shelf + ", 0)", forms.count(shelf, 0), RingForms.BAD);
        }
        int[] wrong = {-1, 2, 5, 6, Integer.MIN_VALUE, Integer.MAX_VALUE};
        for (int w : wrong) {
            DUE.is("at(0, " + w + ")", forms.at(0, w), 0);
            DUE.is("whole(0, " + w + ")", forms.whole(0, w), 0);
            DUE.is("count(0, " + w + ")", forms.count(0, w), RingForms.BAD);
        }
        int[] noPlaces = {-1, 1, 4, 9, 391, 399, 401, Integer.MIN_VALUE, Integer.MAX_VALUE};
        for (int place : noPlaces) {
            DUE.is("hold(0, " + place + ")", forms.hold(0, place), RingForms.BAD);
        }
    }
}
