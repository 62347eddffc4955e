import java.util.Arrays;
import java.util.List;
import java.util.Random;

/** Promise 14: alike. */
public final class AlikeTest {
    private static final Due DUE = new Due();
    private static final List<Integer> PLACES = Oracle.places();

    public static void main(String[] args) {
        sameFormsWrittenOtherwise();
        formsThatTakeOtherNumbers();
        eachConditionBars();
        conditionsTogether();
        wrongInputs();
        DUE.end();
    }

    private static void alikeIs(int want, int[] one, int[] other) {
        RingForms forms = new RingForms();
        Due.put(forms, 1, one);
        Due.put(forms, 3, other);
        String what = Arrays.toString(one) + " and " + Arrays.toString(other);
        DUE.is("alike: " + what, forms.alike(1, 3), want);
        DUE.is("alike the other way: " + what, forms.alike(3, 1), want);
        DUE.is("alike itself: " + what, forms.alike(1, 1), 1);
    }

    /** Squares put to coefficients, another order, and a x x + b y y as (a + b) and a b (a + b). */
    private static void sameFormsWrittenOtherwise() {
        int[] roots = {1, 2, 3, 4};
        for (int a = -5; a <= 5; a++) {
            for (int b = -5; b <= 5; b++) {
                if (a == 0 || b == 0) {
                    continue;
                }
                for (int r : roots) {
                    alikeIs(1, new int[] {a, b, 7}, new int[] {7 * r * r, b, a * r * r});
                }
                if (a + b != 0 && Math.abs(a * b * (a + b)) <= 400) {
                    alikeIs(1, new int[] {a, b}, new int[] {a + b, a * b * (a + b)});
                    alikeIs(1, new int[] {a, b, -6, 11}, new int[] {11, a * b * (a + b), -6, a + b});
                    alikeIs(1, new int[] {a, b, -6, 11, 3}, new int[] {3, 11, a * b * (a + b), -6, a + b});
                }
            }
        }
    }

    /** Alike forms take the same numbers; of one and two coefficients only alike forms of one D do. */
    private static void formsThatTakeOtherNumbers() {
        for (int a = -11; a <= 11; a++) {
            for (int b = -11; b <= 11; b++) {
                for (int c = -7; c <= 7; c++) {
                    if (a == 0 || b == 0 || c == 0 || Math.abs(a * b * c) > 400) {
                        continue;
                    }
                    RingForms forms = new RingForms();
                    Due.put(forms, 0, a, b);
                    Due.put(forms, 1, c, a * b * c);
                    DUE.is("alike: " + a + ", " + b + " and " + c + ", " + a * b * c, forms.alike(0, 1),
                            forms.takes(0, c));
                }
            }
        }
    }

    private static void eachConditionBars() {
        alikeIs(0, new int[] {1}, new int[] {1, 1});
        alikeIs(0, new int[] {1, 1, 1}, new int[] {1, 1, 1, 1});
        alikeIs(0, new int[] {1, 1}, new int[] {-1, -1});
        alikeIs(0, new int[] {1, -1}, new int[] {1, -2});
        alikeIs(0, new int[] {1, 1}, new int[] {3, 3});
        alikeIs(0, new int[] {1, 1}, new int[] {7, 7});
        alikeIs(1, new int[] {1, 1}, new int[] {5, 5});
        alikeIs(1, new int[] {1}, new int[] {400});
        alikeIs(0, new int[] {1}, new int[] {-1});
        alikeIs(0, new int[] {1}, new int[] {399});
        alikeIs(0, new int[] {1, -2}, new int[] {5, -10});
        alikeIs(0, new int[] {1, 2}, new int[] {397, 389});
        alikeIs(0, new int[] {1, 2, 2}, new int[] {1, 383, 383});
        alikeIs(1, new int[] {1, 2}, new int[] {3, 6});
        // Of one D and one H at each prime, but not as many, or not as many above 0.
        alikeIs(0, new int[] {1}, new int[] {1, -1, -1, -1, -1});
        alikeIs(0, new int[] {1, 1, 1, 1}, new int[] {-1, -1, -1, -1});
        // At 2 one H, at 7 and 11 not.
        alikeIs(0, new int[] {1, 77, -1}, new int[] {7, 11, -1});
    }

    private static void conditionsTogether() {
        Random random = new Random(14);
        int alike = 0;
        for (int round = 0; round < 4000; round++) {
            int[] one = randomRow(random, 2 + round % 3);
            int[] other = randomRow(random, 2 + (round % 17 == 0 ? round % 2 : round % 3));
            if (round % 3 != 2) {
                other = Arrays.copyOf(one, one.length);
                int factor = 1 + random.nextInt(20);
                other[0] *= factor;
                other[1] *= factor;
            }
            int want = areAlike(one, other) ? 1 : 0;
            alike += want;
            alikeIs(want, one, other);
        }
        DUE.holds("some are alike and some not", alike > 400 && alike < 3600);
    }

    private static int[] randomRow(Random random, int size) {
        int[] row = new int[size];
        for (int i = 0; i < size; i++) {
            row[i] = (1 + random.nextInt(20)) * (random.nextInt(4) > 0 ? 1 : -1);
        }
        return row;
    }

    private static boolean areAlike(int[] one, int[] other) {
        long both = 1;
        int above = 0;
        for (int c : one) {
            both *= c;
            above += c > 0 ? 1 : 0;
        }
        for (int c : other) {
            both *= c;
            above -= c > 0 ? 1 : 0;
        }
        boolean alike = one.length == other.length && above == 0 && isSquare(both);
        for (int p : PLACES) {
            alike &= p == 0 || !alike || Oracle.signs(one, p) == Oracle.signs(other, p);
        }
        return alike;
    }

    private static boolean isSquare(long number) {
        long root = number < 0 ? 0 : Math.round(Math.sqrt((double) number));
        return root * root == number;
    }

    private static void wrongInputs() {
        RingForms forms = new RingForms();
        int[] noShelves = {-1, 4, 5, 100, Integer.MIN_VALUE, Integer.MAX_VALUE};
        for (int shelf : noShelves) {
            DUE.is("alike(" + shelf + ", 0)", forms.alike(shelf, 0), RingForms.BAD);
            DUE.is("alike(0, " + shelf + ")", forms.alike(0, shelf), RingForms.BAD);
            DUE.is("alike(" + shelf + ", " + shelf + ")", forms.alike(shelf, shelf), RingForms.BAD);
        }
    }
}
