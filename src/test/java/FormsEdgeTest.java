import java.util.Arrays;

/** The boundary cases that promises 5 to 14 and 20 name: form to alike, count. */
public final class FormsEdgeTest {
    private static final Edge EDGE = new Edge();
    private static final Due DUE = EDGE.due;
    private static final int BAD = RingForms.BAD;
    private static final int MIN = Integer.MIN_VALUE;
    private static final int MAX = Integer.MAX_VALUE;

    public static void main(String[] args) {
        formHas1To5Coefficients();
        coefficientsAreFromMinus400To400();
        coefficient0IsRefused();
        othersAreNotLookedAt();
        refusedFormKeepsTheFormBefore();
        atOfEachCoefficientAndNoOther();
        atOfAFormThatWasLonger();
        wholeOf0And1();
        wholeOfTheGreatest();
        holdOfOneAloneIs1();
        goesAnswers0Or1();
        noughtAnswers0Or1();
        barsOfNoneAndMost();
        barOfEachAndNoOther();
        takesNumbersTo400();
        takes0IsRefused();
        takesWithSixCoefficients();
        takesOfOneCoefficient();
        alikeOfAShelfWithItself();
        alikeNeedsEachOfItsFour();
        countOf0And1();
        EDGE.end();
    }

    private static int form(RingForms forms, int shelf, int n, int[] five) {
        return forms.form(shelf, n, five[0], five[1], five[2], five[3], five[4]);
    }

    private static void lookAtRow(String after, RingForms forms, int shelf, int... row) {
        DUE.is("count after " + after, forms.count(shelf, 0), row.length);
        for (int i = 0; i < 7; i++) {
            DUE.is("at " + i + " after " + after, forms.at(shelf, i), i < row.length ? row[i] : 0);
        }
    }

    private static void formHas1To5Coefficients() {
        int[] five = {2, -3, 5, -7, 11};
        for (int n = 1; n <= 5; n++) {
            RingForms forms = new RingForms();
            DUE.is("form of " + n, form(forms, 2, n, five), n);
            lookAtRow("form of " + n, forms, 2, Arrays.copyOf(five, n));
        }
        for (int n : Edge.beyond(1, 5)) {
            for (int shelf = 0; shelf <= 3; shelf++) {
                int at = shelf;
                EDGE.keeps("form(" + at + ", " + n + ", ..)", BAD, f -> form(f, at, n, five));
            }
        }
    }

    private static void coefficientsAreFromMinus400To400() {
        int[] five = {2, -3, 5, -7, 11};
        for (int n = 1; n <= 5; n++) {
            for (int i = 0; i < n; i++) {
                for (int c : new int[] {-400, -399, -1, 1, 399, 400}) {
                    RingForms forms = new RingForms();
                    int[] row = Edge.changed(five, i, c);
                    String call = "form of " + n + " with " + c + " at " + i;
                    DUE.is(call, form(forms, 1, n, row), n);
                    lookAtRow(call, forms, 1, Arrays.copyOf(row, n));
                }
                for (int c : Edge.beyond(-400, 400)) {
                    refusesCoefficient(n, i, c);
                }
            }
        }
    }

    private static void coefficient0IsRefused() {
        for (int n = 1; n <= 5; n++) {
            for (int i = 0; i < n; i++) {
                refusesCoefficient(n, i, 0);
            }
        }
    }

    private static void refusesCoefficient(int n, int i, int c) {
        int[] row = Edge.changed(new int[] {2, -3, 5, -7, 11}, i, c);
        for (int shelf = 0; shelf <= 3; shelf++) {
            int at = shelf;
            EDGE.keeps("form(" + at + ", " + n + ", ..) with " + c + " at " + i, BAD, f -> form(f, at, n, row));
        }
    }

    private static void othersAreNotLookedAt() {
        int[] five = {2, -3, 5, -7, 11};
        for (int n = 1; n < 5; n++) {
            for (int other : new int[] {0, 1, 401, -401, MIN, MAX}) {
                int[] row = five.clone();
                Arrays.fill(row, n, 5, other);
                RingForms forms = new RingForms();
                DUE.is("form of " + n + " and " + other, form(forms, 0, n, row), n);
                lookAtRow("form of " + n + " and " + other, forms, 0, Arrays.copyOf(row, n));
            }
        }
        RingForms forms = new RingForms();
        forms.form(0, 2, 1, -1, 3, 3, 3);
        DUE.is("D without others", forms.whole(0, 0), -1);
        DUE.is("above 0 without others", forms.count(0, 1), 1);
        DUE.is("bars without others", forms.bars(0), 0);
    }

    /** The first coefficients are as told, a later one is not: none of them comes to the shelf. */
    private static void refusedFormKeepsTheFormBefore() {
        RingForms forms = new RingForms();
        forms.form(1, 3, 7, -11, 13, 0, 0);
        DUE.is("form with a last of 0", forms.form(1, 5, 2, 2, 2, 2, 0), BAD);
        lookAtRow("form with a last of 0", forms, 1, 7, -11, 13);
        DUE.is("form with a second of 401", forms.form(1, 2, 2, 401, 2, 2, 2), BAD);
        lookAtRow("form with a second of 401", forms, 1, 7, -11, 13);
        DUE.is("form of no coefficient", forms.form(1, 0, 2, 2, 2, 2, 2), BAD);
        lookAtRow("form of no coefficient", forms, 1, 7, -11, 13);
        DUE.is("form as told", forms.form(1, 1, -400, 0, 0, 0, 0), 1);
        lookAtRow("form as told", forms, 1, -400);
    }

    private static void atOfEachCoefficientAndNoOther() {
        for (int shelf = 0; shelf <= 3; shelf++) {
            int at = shelf;
            int[] row = Edge.ROWS[shelf];
            for (int i = 0; i < row.length; i++) {
                int place = i;
                EDGE.keeps("at(" + at + ", " + i + ")", row[i], f -> f.at(at, place));
            }
            for (int i : Edge.beyond(0, row.length - 1)) {
                EDGE.keeps("at(" + at + ", " + i + ")", 0, f -> f.at(at, i));
            }
        }
        EDGE.keeps("at(3, 4)", -7, f -> f.at(3, 4));
        EDGE.keeps("at(3, 5)", 0, f -> f.at(3, 5));
        EDGE.keeps("at(3, 6)", 0, f -> f.at(3, 6));
    }

    private static void atOfAFormThatWasLonger() {
        for (int n = 1; n < 5; n++) {
            RingForms forms = Edge.with(2, 3, 5, 7, 11);
            form(forms, 0, n, new int[] {-2, -3, -5, -7, -11});
            for (int i = 0; i < 6; i++) {
                DUE.is("at " + i + " of " + n + " after five", forms.at(0, i),
                        i < n ? new int[] {-2, -3, -5, -7}[i] : 0);
            }
        }
        // What takes() puts behind the coefficients is none of them.
        RingForms forms = Edge.with(1, 1, 1);
        forms.takes(0, 7);
        lookAtRow("takes", forms, 0, 1, 1, 1);
    }

    private static void wholeOf0And1() {
        EDGE.keeps("whole(0, 0)", -2, f -> f.whole(0, 0));
        EDGE.keeps("whole(2, 0)", -16, f -> f.whole(2, 0));
        EDGE.keeps("whole(2, 1)", -1, f -> f.whole(2, 1));
        EDGE.keeps("whole(3, 1)", -210, f -> f.whole(3, 1));
        for (int what : Edge.beyond(0, 1)) {
            EDGE.keeps("whole(0, " + what + ")", 0, f -> f.whole(0, what));
        }
    }

    private static void whole(int[] row, long product, long free) {
        EDGE.of(row, "D", product, f -> f.whole(0, 0));
        EDGE.of(row, "FREE of D", free, f -> f.whole(0, 1));
    }

    private static void wholeOfTheGreatest() {
        whole(new int[] {400, 400, 400, 400, 400}, 10240000000000L, 1);
        whole(new int[] {-400, 400, 400, 400, 400}, -10240000000000L, -1);
        whole(new int[] {-400, -400, -400, -400, -400}, -10240000000000L, -1);
        whole(new int[] {399, 399, 399, 399, 399}, 10112638401999L, 399);
        whole(new int[] {397, 397}, 157609, 1);
        whole(new int[] {397, 397, 397}, 62570773, 397);
        whole(new int[] {397, 389, 383, 379, 373}, 397L * 389 * 383 * 379 * 373, 397L * 389 * 383 * 379 * 373);
        whole(new int[] {-397, 389, 383, 379, 373}, -397L * 389 * 383 * 379 * 373, -397L * 389 * 383 * 379 * 373);
        whole(new int[] {256, 256, 256, 256, 128}, 549755813888L, 2);
        whole(new int[] {-1}, -1, -1);
        whole(new int[] {400}, 400, 1);
        whole(new int[] {-398}, -398, -398);
    }

    private static void holdOfOneAloneIs1() {
        for (int a : new int[] {1, -1, 2, -3, 397, -397, 400, -400}) {
            for (int place : Oracle.places()) {
                EDGE.of(new int[] {a}, "hold at " + place, 1, f -> f.hold(0, place));
            }
        }
        // Of two it is their sign; each pair counts once.
        EDGE.of(new int[] {-1, -1}, "hold at the line", -1, f -> f.hold(0, 0));
        EDGE.of(new int[] {-1, -1, -1}, "hold at the line", -1, f -> f.hold(0, 0));
        EDGE.of(new int[] {-1, -1, -1, -1}, "hold at the line", 1, f -> f.hold(0, 0));
        EDGE.of(new int[] {-1, -1, -1, -1, -1}, "hold at the line", 1, f -> f.hold(0, 0));
        EDGE.of(new int[] {-1, -1, -1}, "hold at 2", -1, f -> f.hold(0, 2));
        EDGE.of(new int[] {397, 2}, "hold at 397", -1, f -> f.hold(0, 397));
        EDGE.of(new int[] {397, 2, 2, 2, 2}, "hold at 397", 1, f -> f.hold(0, 397));
        EDGE.of(new int[] {2, 2, 2, 1, 397}, "hold at 397", -1, f -> f.hold(0, 397));
    }

    private static void goesAnswers0Or1() {
        EDGE.keeps("goes(1, 0)", 0, f -> f.goes(1, 0));
        EDGE.keeps("goes(1, 2)", 0, f -> f.goes(1, 2));
        EDGE.keeps("goes(1, 397)", 1, f -> f.goes(1, 397));
        EDGE.keeps("goes(0, 0)", 1, f -> f.goes(0, 0));
        EDGE.keeps("goes(2, 397)", 1, f -> f.goes(2, 397));
        EDGE.keeps("goes(3, 7)", 1, f -> f.goes(3, 7));
    }

    private static void noughtAnswers0Or1() {
        EDGE.keeps("nought(0)", 1, f -> f.nought(0));
        EDGE.keeps("nought(1)", 0, f -> f.nought(1));
        EDGE.keeps("nought(2)", 1, f -> f.nought(2));
        EDGE.keeps("nought(3)", 1, f -> f.nought(3));
        EDGE.of(new int[] {400, -400}, "nought", 1, f -> f.nought(0));
        EDGE.of(new int[] {400, 400}, "nought", 0, f -> f.nought(0));
        EDGE.of(new int[] {397, -396}, "nought", 0, f -> f.nought(0));
        // It is nought, but by numbers beyond those of SOLUTIONS.
        EDGE.of(new int[] {1, -194, -185}, "nought", 1, f -> f.nought(0));
    }

    private static void barsOfNoneAndMost() {
        EDGE.keeps("bars(0)", 0, f -> f.bars(0));
        EDGE.keeps("bars(1)", 2, f -> f.bars(1));
        EDGE.keeps("bars(2)", 0, f -> f.bars(2));
        EDGE.keeps("bars(3)", 0, f -> f.bars(3));
        EDGE.of(new int[] {330}, "bars", 5, f -> f.bars(0));
        EDGE.of(new int[] {330, 91}, "bars", 7, f -> f.bars(0));
        EDGE.of(new int[] {330, 91}, "bar 6", 13, f -> f.bar(0, 6));
        EDGE.of(new int[] {330, 91}, "bar 7", BAD, f -> f.bar(0, 7));
    }

    private static void barOfEachAndNoOther() {
        EDGE.keeps("bar(1, 0)", 0, f -> f.bar(1, 0));
        EDGE.keeps("bar(1, 1)", 2, f -> f.bar(1, 1));
        for (int i : Edge.beyond(0, 1)) {
            EDGE.keeps("bar(1, " + i + ")", BAD, f -> f.bar(1, i));
        }
        // Where there are none, there is no first.
        for (int i : new int[] {-1, 0, 1, MIN, MAX}) {
            EDGE.keeps("bar(0, " + i + ")", BAD, f -> f.bar(0, i));
            EDGE.keeps("bar(2, " + i + ")", BAD, f -> f.bar(2, i));
            EDGE.keeps("bar(3, " + i + ")", BAD, f -> f.bar(3, i));
        }
    }

    private static void takesNumbersTo400() {
        EDGE.keeps("takes(0, 400)", 1, f -> f.takes(0, 400));
        EDGE.keeps("takes(0, -400)", 1, f -> f.takes(0, -400));
        EDGE.keeps("takes(1, 400)", 1, f -> f.takes(1, 400));
        EDGE.keeps("takes(1, 399)", 0, f -> f.takes(1, 399));
        EDGE.keeps("takes(1, -400)", 0, f -> f.takes(1, -400));
        EDGE.keeps("takes(1, 1)", 1, f -> f.takes(1, 1));
        EDGE.keeps("takes(1, -1)", 0, f -> f.takes(1, -1));
        EDGE.keeps("takes(1, 7)", 0, f -> f.takes(1, 7));
        for (int t : Edge.beyond(-400, 400)) {
            for (int shelf = 0; shelf <= 3; shelf++) {
                int at = shelf;
                EDGE.keeps("takes(" + at + ", " + t + ")", BAD, f -> f.takes(at, t));
            }
        }
    }

    private static void takes0IsRefused() {
        for (int shelf = 0; shelf <= 3; shelf++) {
            int at = shelf;
            EDGE.keeps("takes(" + at + ", 0)", BAD, f -> f.takes(at, 0));
        }
        // Though the form is nought, or is not.
        EDGE.of(new int[] {1, -1}, "takes 0", BAD, f -> f.takes(0, 0));
        EDGE.of(new int[] {1}, "takes 0", BAD, f -> f.takes(0, 0));
    }

    private static void takesWithSixCoefficients() {
        int[][] above = {{1, 1, 1, 1, 1}, {400, 400, 400, 400, 400}, {3, 3, 27, 6, 397}};
        for (int[] row : above) {
            int[] below = row.clone();
            for (int i = 0; i < 5; i++) {
                below[i] = -row[i];
            }
            for (int t : new int[] {1, 2, 7, 397, 399, 400}) {
                EDGE.of(row, "takes " + t, 1, f -> f.takes(0, t));
                EDGE.of(row, "takes " + -t, 0, f -> f.takes(0, -t));
                EDGE.of(below, "takes " + t, 0, f -> f.takes(0, t));
                EDGE.of(below, "takes " + -t, 1, f -> f.takes(0, -t));
                EDGE.of(Edge.changed(row, 4, -1), "takes " + t, 1, f -> f.takes(0, t));
                EDGE.of(Edge.changed(row, 4, -1), "takes " + -t, 1, f -> f.takes(0, -t));
            }
        }
        EDGE.keeps("takes(3, 400)", 1, f -> f.takes(3, 400));
        EDGE.keeps("takes(3, -400)", 1, f -> f.takes(3, -400));
    }

    private static void takesOfOneCoefficient() {
        EDGE.of(new int[] {1}, "takes 400", 1, f -> f.takes(0, 400));
        EDGE.of(new int[] {1}, "takes 399", 0, f -> f.takes(0, 399));
        EDGE.of(new int[] {1}, "takes -400", 0, f -> f.takes(0, -400));
        EDGE.of(new int[] {-1}, "takes -400", 1, f -> f.takes(0, -400));
        EDGE.of(new int[] {2}, "takes 392", 1, f -> f.takes(0, 392));
        EDGE.of(new int[] {397}, "takes 397", 1, f -> f.takes(0, 397));
        EDGE.of(new int[] {397}, "takes -397", 0, f -> f.takes(0, -397));
        EDGE.of(new int[] {400}, "takes 1", 1, f -> f.takes(0, 1));
    }

    private static void alikeOfAShelfWithItself() {
        for (int shelf = 0; shelf <= 3; shelf++) {
            int at = shelf;
            EDGE.keeps("alike(" + at + ", " + at + ")", 1, f -> f.alike(at, at));
            for (int other : Edge.beyond(0, 3)) {
                EDGE.keeps("alike(" + at + ", " + other + ")", BAD, f -> f.alike(at, other));
                EDGE.keeps("alike(" + other + ", " + at + ")", BAD, f -> f.alike(other, at));
            }
        }
        EDGE.keeps("alike(0, 1)", 0, f -> f.alike(0, 1));
        EDGE.keeps("alike(0, 2)", 0, f -> f.alike(0, 2));
        EDGE.keeps("alike(3, 0)", 0, f -> f.alike(3, 0));
    }

    private static void alike(int want, int[] one, int[] other) {
        RingForms forms = new RingForms();
        Due.put(forms, 0, one);
        Due.put(forms, 3, other);
        String what = Arrays.toString(one) + " and " + Arrays.toString(other);
        DUE.is("alike: " + what, forms.alike(0, 3), want);
        DUE.is("alike: the other way, " + what, forms.alike(3, 0), want);
    }

    /** Each pair fails by one of the four alone; the last of each group fails by none. */
    private static void alikeNeedsEachOfItsFour() {
        // As many coefficients.
        alike(0, new int[] {-1}, new int[] {-1, -1, -1, -1, -1});
        alike(0, new int[] {1}, new int[] {1, -1, -1, -1, -1});
        alike(1, new int[] {400}, new int[] {1});
        // As many above 0.
        alike(0, new int[] {1, 1, 1, 1}, new int[] {-1, -1, -1, -1});
        alike(0, new int[] {1, 1, 1, 1, 1}, new int[] {1, -1, -1, -1, -1});
        alike(1, new int[] {-1, -1, -1, -1}, new int[] {-4, -9, -16, -25});
        // One FREE of D.
        alike(0, new int[] {1}, new int[] {2});
        alike(0, new int[] {1}, new int[] {397});
        alike(0, new int[] {1, 1}, new int[] {1, 17});
        alike(1, new int[] {397}, new int[] {397});
        // One H at 2 and at the primes of both: unlike at 2 and 3, 2 and 197, 7 and 11, 379 and 383.
        alike(0, new int[] {1, 1}, new int[] {3, 3});
        alike(0, new int[] {1, 394}, new int[] {2, 197});
        alike(0, new int[] {1, 77, -1}, new int[] {7, 11, -1});
        alike(0, new int[] {1, 1, 1, 1}, new int[] {379, 379, 383, 383});
        alike(1, new int[] {1, 1}, new int[] {397, 397});
        alike(1, new int[] {1, -1}, new int[] {397, -397});
    }

    private static void countOf0And1() {
        for (int shelf = 0; shelf <= 3; shelf++) {
            int at = shelf;
            int[] row = Edge.ROWS[shelf];
            int[] above = {2, 3, 1, 4};
            EDGE.keeps("count(" + at + ", 0)", row.length, f -> f.count(at, 0));
            EDGE.keeps("count(" + at + ", 1)", above[at], f -> f.count(at, 1));
            for (int what : Edge.beyond(0, 1)) {
                EDGE.keeps("count(" + at + ", " + what + ")", BAD, f -> f.count(at, what));
            }
        }
        for (int n = 1; n <= 5; n++) {
            int[] row = new int[n];
            Arrays.fill(row, -1);
            EDGE.of(row, "above 0", 0, f -> f.count(0, 1));
            Arrays.fill(row, 400);
            EDGE.of(row, "above 0", n, f -> f.count(0, 1));
            EDGE.of(row, "coefficients", n, f -> f.count(0, 0));
        }
    }
}
