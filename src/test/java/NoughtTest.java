import java.util.ArrayList;
import java.util.Arrays;
import java.util.List;
import java.util.Random;

/** Promises 9 to 13: goes, nought, bars, bar, takes. */
public final class NoughtTest {
    private static final Due DUE = new Due();
    private static final List<Integer> PLACES = Oracle.places();
    private static final int[] NO_SHELVES = {-1, 4, 5, 100, Integer.MIN_VALUE, Integer.MAX_VALUE};

    public static void main(String[] args) {
        goesMeansSolutionsThere();
        barsAreThePlacesThatDoNotGo();
        noughtMeansWholeNumbers();
        formsOfOneAndTwo();
        takesMeansFractions();
        takesIsNoughtWithOneMore();
        takesChangesNothing();
        wrongInputs();
        DUE.end();
    }

    private static void put(RingForms forms, int shelf, int... row) {
        DUE.is("form " + Arrays.toString(row), Due.put(forms, shelf, row), row.length);
    }

    private static int[] randomRow(Random random, int size, int most) {
        int[] row = new int[size];
        for (int i = 0; i < size; i++) {
            row[i] = (1 + random.nextInt(most)) * (random.nextBoolean() ? 1 : -1);
        }
        return row;
    }

    private static void goesMeansSolutionsThere() {
        Random random = new Random(9);
        int[] primes = {2, 3, 5, 7, 11, 13};
        for (int round = 0; round < 2500; round++) {
            RingForms forms = new RingForms();
            int[] row = randomRow(random, 1 + round % 5, round % 2 == 0 ? 7 : 14);
            put(forms, 3, row);
            for (int p : primes) {
                DUE.is("goes at " + p + " of " + Arrays.toString(row), forms.goes(3, p),
                        Oracle.goesModuloPowers(row, p) ? 1 : 0);
            }
            DUE.is("goes on the line of " + Arrays.toString(row), forms.goes(3, 0),
                    Oracle.goesOnTheLine(row) ? 1 : 0);
        }
    }

    private static void barsAreThePlacesThatDoNotGo() {
        Random random = new Random(11);
        for (int round = 0; round < 3000; round++) {
            RingForms forms = new RingForms();
            int[] row = randomRow(random, 1 + round % 5, round % 3 == 0 ? 12 : 400);
            put(forms, 2, row);
            List<Integer> bars = new ArrayList<>();
            for (int place : PLACES) {
                if (isAmong(place, row)) {
                    if (forms.goes(2, place) == 0) {
                        bars.add(place);
                    }
                } else if (row.length > 2) {
                    DUE.is("goes at other " + place + " of " + Arrays.toString(row), forms.goes(2, place), 1);
                }
            }
            String of = " of " + Arrays.toString(row);
            DUE.is("bars" + of, forms.bars(2), bars.size());
            for (int i = 0; i < bars.size(); i++) {
                DUE.is("bar " + i + of, forms.bar(2, i), bars.get(i));
            }
            DUE.is("bar beyond the last" + of, forms.bar(2, bars.size()), RingForms.BAD);
            DUE.is("nought" + of, forms.nought(2), bars.isEmpty() ? 1 : 0);
        }
    }

    private static boolean isAmong(int place, int[] row) {
        boolean among = place == 0 || place == 2;
        for (int c : row) {
            among |= place != 0 && c % place == 0;
        }
        return among;
    }

    private static void noughtMeansWholeNumbers() {
        for (int a = 1; a <= 9; a++) {
            for (int b = -9; b <= 9; b++) {
                for (int c = -9; c < 0; c++) {
                    if (b != 0) {
                        noughtIs(60, a, b, c);
                        noughtIs(14, a, b, c, (a + b * b) % 7 - 3 == 0 ? 5 : (a + b * b) % 7 - 3);
                    }
                }
            }
        }
        noughtIs(12, 1, 1, 1, -7);
        noughtIs(12, 1, 1, 1, -15);
        noughtIs(12, 1, 1, 1, -28);
        noughtIs(12, 1, 1, 1, -6);
        noughtIs(6, 1, 1, 1, 1, -7);
        noughtIs(6, 3, 3, -1, -1, -5);
        noughtIs(6, 1, 2, 3, 5, 7);
        noughtIs(6, -1, -2, -3, -5, -7);
    }

    private static void noughtIs(int size, int... row) {
        RingForms forms = new RingForms();
        put(forms, 0, row);
        DUE.is("nought of " + Arrays.toString(row), forms.nought(0), Oracle.isNoughtWithin(row, size) ? 1 : 0);
    }

    private static void formsOfOneAndTwo() {
        for (int a = -400; a <= 400; a += 1) {
            if (a == 0) {
                continue;
            }
            RingForms forms = new RingForms();
            put(forms, 1, a);
            DUE.is("nought of " + a, forms.nought(1), 0);
            int primes = 1;
            for (int p = 3; p < 400; p++) {
                primes += Oracle.isPrime(p) && a % p == 0 ? 1 : 0;
            }
            DUE.is("bars of " + a, forms.bars(1), 1 + primes);
            for (int place : PLACES) {
                DUE.is("goes of " + a, forms.goes(1, place), 0);
            }
            for (int b = -400; b <= 400; b += 7) {
                if (b != 0) {
                    put(forms, 1, a, b);
                    long root = Math.round(Math.sqrt(Math.abs((double) a * b)));
                    DUE.is("nought of " + a + ", " + b, forms.nought(1), root * root == -(long) a * b ? 1 : 0);
                }
            }
        }
    }

    private static void takesIs(int want, int t, int... row) {
        RingForms forms = new RingForms();
        put(forms, 0, row);
        DUE.is(t + " taken by " + Arrays.toString(row), forms.takes(0, t), want);
    }

    private static void takesMeansFractions() {
        for (int a = -6; a <= 6; a++) {
            for (int t = -400; t <= 400; t++) {
                if (a == 0 || t == 0) {
                    continue;
                }
                long root = Math.round(Math.sqrt(Math.abs((double) a * t)));
                takesIs(root * root == (long) a * t ? 1 : 0, t, a);
            }
            for (int b = -6; b <= 6; b++) {
                for (int t = -10; t <= 10; t++) {
                    if (a != 0 && b != 0 && t != 0) {
                        int[] more = {a, b, -t};
                        takesIs(Oracle.isNoughtWithin(more, 60) ? 1 : 0, t, a, b);
                    }
                }
            }
        }
        threeSquares();
    }

    /** Sums of three squares of fractions: all above 0 but 4^k (8 m + 7); of four: all above 0. */
    private static void threeSquares() {
        for (int t = 1; t <= 400; t++) {
            int rest = t;
            while (rest % 4 == 0) {
                rest /= 4;
            }
            takesIs(rest % 8 == 7 ? 0 : 1, t, 1, 1, 1);
            takesIs(0, -t, 1, 1, 1);
            takesIs(1, t, 1, 1, 1, 1);
            takesIs(0, -t, 1, 1, 1, 1);
            takesIs(0, t, -1, -1, -1, -1, -1);
            takesIs(1, -t, -1, -1, -1, -1, -1);
        }
    }

    private static void takesIsNoughtWithOneMore() {
        Random random = new Random(13);
        for (int round = 0; round < 4000; round++) {
            RingForms forms = new RingForms();
            int[] row = randomRow(random, 1 + round % 5, round % 2 == 0 ? 30 : 400);
            int t = randomRow(random, 1, 400)[0];
            put(forms, 0, row);
            int want;
            if (row.length < 5) {
                int[] more = Arrays.copyOf(row, row.length + 1);
                more[row.length] = -t;
                put(forms, 1, more);
                want = forms.nought(1);
            } else {
                int[] more = Arrays.copyOf(row, 6);
                more[5] = -t;
                want = Oracle.goesOnTheLine(more) ? 1 : 0;
            }
            DUE.is(t + " taken by " + Arrays.toString(row), forms.takes(0, t), want);
        }
    }

    private static void takesChangesNothing() {
        RingForms forms = new RingForms();
        put(forms, 0, 1, 1, 1, 1, 1);
        forms.takes(0, 3);
        DUE.is("count after takes", forms.count(0, 0), 5);
        DUE.is("nought after takes", forms.nought(0), 0);
        put(forms, 1, 1, 1);
        forms.takes(1, 2);
        DUE.is("count after takes", forms.count(1, 0), 2);
        DUE.is("nought after takes", forms.nought(1), 0);
        DUE.is("at after takes", forms.at(1, 2), 0);
    }

    private static void wrongInputs() {
        RingForms forms = new RingForms();
        int bad = RingForms.BAD;
        for (int shelf : NO_SHELVES) {
            DUE.is("goes(" + shelf + ", 2)", forms.goes(shelf, 2), bad);
            DUE.is("nought(" + shelf + ")", forms.nought(shelf), bad);
            DUE.is("bars(" + shelf + ")", forms.bars(shelf), bad);
            DUE.is("bar(" + shelf + ", 0)", forms.bar(shelf, 0), bad);
            DUE.is("takes(" + shelf + ", 1)", forms.takes(shelf, 1), bad);
        }
        int[] noPlaces = {-1, 1, 4, 9, 391, 399, 401, 409, Integer.MIN_VALUE, Integer.MAX_VALUE};
        for (int place : noPlaces) {
            DUE.is("goes(0, " + place + ")", forms.goes(0, place), bad);
        }
        int[] noBars = {-1, 2, 3, Integer.MIN_VALUE, Integer.MAX_VALUE};
        for (int i : noBars) {
            DUE.is("bar(0, " + i + ")", forms.bar(0, i), bad);
        }
        int[] noNumbers = {0, 401, -401, Integer.MIN_VALUE, Integer.MAX_VALUE};
        for (int t : noNumbers) {
            DUE.is("takes(0, " + t + ")", forms.takes(0, t), bad);
        }
        DUE.is("takes(0, 400)", forms.takes(0, 400), 1);
        DUE.is("takes(0, -400)", forms.takes(0, -400), 0);
    }
}
