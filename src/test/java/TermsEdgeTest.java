import java.util.List;

/** The boundary cases that the document's terms name, a test for each sentence. */
public final class TermsEdgeTest {
    private static final Edge EDGE = new Edge();
    private static final Due DUE = EDGE.due;
    private static final List<Integer> PLACES = Oracle.places();
    private static final int BAD = RingForms.BAD;
    private static final long NO = RingForms.NO;

    /** A call that asks a shelf. */
    interface ShelfCall {
        long of(RingForms forms, int shelf);
    }

    public static void main(String[] args) {
        placesAreTheLineAndPrimesTo397();
        signAtTheLine();
        signAtOddPrimes();
        signAtTwo();
        freeIsOfTheSameSignWithoutMultiplePrimes();
        shelvesAre0To3();
        shelvesAreEachTheirOwn();
        squareAtTheLine();
        squareAtOddPrimes();
        squareAtTwo();
        oneNeverGoes();
        twoGoIfMinusDIsSquare();
        threeGoByTheirSigns();
        fourGoIfDIsNoSquareOrByTheirSigns();
        fiveGoAtPrimesEver();
        anyNumberGoesAtTheLineIfSignsDiffer();
        barsAreAmong0And2AndPrimesInOrder();
        threeAndMoreGoAtAllOthers();
        twoGoAtOthersJustIfMinusDIsWholeSquare();
        badStandsBeforeState();
        fullAndNoneAreNeverAnswered();
        the512thCallIsAnswered();
        EDGE.end();
    }

    private static void placesAreTheLineAndPrimesTo397() {
        for (int place = -3; place <= 1000; place++) {
            askPlace(place, PLACES.contains(place));
        }
        int[] far = {-397, 1009, 65537, 65539, 131074, 999983, Integer.MAX_VALUE, Integer.MIN_VALUE};
        for (int place : far) {
            askPlace(place, false);
        }
        for (int place : new int[] {-1, 1, 4, 391, 396, 398, 399, 401, Integer.MIN_VALUE, Integer.MAX_VALUE}) {
            EDGE.keeps("sign(1, 1, " + place + ")", BAD, f -> f.sign(1, 1, place));
            EDGE.keeps("hold(0, " + place + ")", BAD, f -> f.hold(0, place));
            EDGE.keeps("goes(0, " + place + ")", BAD, f -> f.goes(0, place));
        }
    }

    private static void askPlace(int place, boolean isPlace) {
        RingForms forms = new RingForms();
        DUE.is("sign(1, 1, " + place + ")", forms.sign(1, 1, place), isPlace ? 1 : BAD);
        DUE.is("hold(3, " + place + ")", forms.hold(3, place), isPlace ? 1 : BAD);
        DUE.is("goes(3, " + place + ")", forms.goes(3, place), isPlace ? 0 : BAD);
    }

    private static void sign(int a, int b, int place, int want) {
        DUE.is("sign(" + a + ", " + b + ", " + place + ")", new RingForms().sign(a, b, place), want);
        DUE.is("sign(" + b + ", " + a + ", " + place + ")", new RingForms().sign(b, a, place), want);
    }

    private static void signAtTheLine() {
        for (int size : new int[] {1, 2, 399, 1000000}) {
            sign(-size, -1, 0, -1);
            sign(-size, -size, 0, -1);
            sign(-size, 1, 0, 1);
            sign(-size, size, 0, 1);
            sign(size, size, 0, 1);
        }
    }

    private static void signAtOddPrimes() {
        // No power of the prime, and odd powers of one number alone.
        sign(2, 5, 3, 1);
        sign(2, 3, 3, -1);
        sign(1, 3, 3, 1);
        sign(4, 3, 3, 1);
        sign(-1, 3, 3, -1);
        sign(-1, 5, 5, 1);
        sign(2, 5, 5, -1);
        sign(2, 397, 397, -1);
        sign(-1, 397, 397, 1);
        sign(-1, 383, 383, -1);
        // Even powers, one or both.
        sign(2, 9, 3, 1);
        sign(18, 9, 3, 1);
        sign(18, 3, 3, -1);
        sign(9, 3, 3, 1);
        sign(157609, 2, 397, 1);
        sign(157609, 397, 397, 1);
        sign(315218, 397, 397, -1);
        // Odd powers of both: (p - 1) / 2 odd, then even.
        sign(3, 3, 3, -1);
        sign(3, -3, 3, 1);
        sign(3, 6, 3, 1);
        sign(383, 383, 383, -1);
        sign(5, 5, 5, 1);
        sign(5, 10, 5, -1);
        sign(10, 10, 5, 1);
        sign(397, 397, 397, 1);
        // The greatest powers.
        sign(531441, 3, 3, 1);
        sign(177147, 3, 3, -1);
        sign(177147, 2, 3, -1);
        sign(354294, 2, 3, -1);
        sign(354294, 9, 3, 1);
        sign(1000000, 5, 5, 1);
        sign(-823543, 7, 7, 1);
    }

    private static void signAtTwo() {
        // Each of the three terms alone, then together.
        sign(3, 3, 2, -1);
        sign(3, 5, 2, 1);
        sign(5, 5, 2, 1);
        sign(-1, 3, 2, -1);
        sign(-3, 3, 2, 1);
        sign(7, -1, 2, -1);
        sign(2, 1, 2, 1);
        sign(2, 3, 2, -1);
        sign(2, 5, 2, -1);
        sign(2, 7, 2, 1);
        sign(2, -1, 2, 1);
        sign(2, -3, 2, -1);
        sign(2, -5, 2, -1);
        sign(2, -7, 2, 1);
        sign(2, 2, 2, 1);
        sign(4, 3, 2, 1);
        sign(8, 3, 2, -1);
        sign(6, 3, 2, 1);
        sign(6, 6, 2, -1);
        sign(10, 10, 2, 1);
        sign(-2, -2, 2, -1);
        sign(262144, 3, 2, 1);
        sign(524288, 3, 2, -1);
        sign(-1000000, -1000000, 2, -1);
        sign(1000000, -1000000, 2, 1);
    }

    private static void freeIsOfTheSameSignWithoutMultiplePrimes() {
        int[][] frees = {{1, 1}, {2, 2}, {4, 1}, {8, 2}, {9, 1}, {12, 3}, {27, 3}, {30, 30}, {36, 1}, {72, 2},
            {397 * 397, 1}, {2 * 397 * 397, 2}, {994009, 1}, {524288, 2}, {262144, 1}, {999999, 111111},
            {999983, 999983}, {999998, 62}, {999997, 999997}, {1000000, 1}};
        for (int[] free : frees) {
            DUE.is("free(" + free[0] + ")", new RingForms().free(free[0]), free[1]);
            DUE.is("free(" + -free[0] + ")", new RingForms().free(-free[0]), -free[1]);
        }
    }

    private static void shelvesAre0To3() {
        askShelves("form", BAD, 3, (f, s) -> f.form(s, 3, 1, 1, -2, 0, 0));
        askShelves("at", 0, -2, (f, s) -> f.at(s, 2));
        askShelves("whole 0", 0, -2, (f, s) -> f.whole(s, 0));
        askShelves("whole 1", 0, -2, (f, s) -> f.whole(s, 1));
        askShelves("hold", BAD, 1, (f, s) -> f.hold(s, 2));
        askShelves("goes", BAD, 1, (f, s) -> f.goes(s, 2));
        askShelves("nought", BAD, 1, (f, s) -> f.nought(s));
        askShelves("bars", BAD, 0, (f, s) -> f.bars(s));
        askShelves("takes", BAD, 1, (f, s) -> f.takes(s, 400));
        askShelves("alike", BAD, 1, (f, s) -> f.alike(s, 0));
        askShelves("alike, the other", BAD, 1, (f, s) -> f.alike(0, s));
        askShelves("alike, both", BAD, 1, (f, s) -> f.alike(s, s));
        askShelves("worth", NO, -9, (f, s) -> f.worth(s, 0, 3, 3));
        askShelves("least", NO, -1, (f, s) -> f.least(s, 0, 2));
        askShelves("many", BAD, 28, (f, s) -> f.many(s));
        askShelves("line", NO, -1, (f, s) -> f.line(s, 1, 1, 1, 1, 0, 0, 1));
        askShelves("count 0", BAD, 3, (f, s) -> f.count(s, 0));
        askShelves("count 1", BAD, 2, (f, s) -> f.count(s, 1));
        // x x + y y - 2 z z has no bar: bar() is asked of the forms of a new object.
        for (int shelf = 0; shelf <= 3; shelf++) {
            DUE.is("bar(" + shelf + ", 1)", new RingForms().bar(shelf, 1), 2);
        }
        for (int shelf : Edge.beyond(0, 3)) {
            EDGE.keeps("bar(" + shelf + ", 0)", BAD, f -> f.bar(shelf, 0));
        }
    }

    /** With x x + y y - 2 z z on each shelf, each is answered, and others are refused. */
    private static void askShelves(String name, long refusal, long want, ShelfCall call) {
        for (int shelf = 0; shelf <= 3; shelf++) {
            RingForms forms = new RingForms();
            for (int i = 0; i <= 3; i++) {
                forms.form(i, 3, 1, 1, -2, 0, 0);
            }
            DUE.is(name + " of shelf " + shelf, call.of(forms, shelf), want);
        }
        for (int shelf : Edge.beyond(0, 3)) {
            EDGE.keeps(name + " of shelf " + shelf, refusal, f -> call.of(f, shelf));
        }
    }

    private static void shelvesAreEachTheirOwn() {
        for (int shelf = 0; shelf <= 3; shelf++) {
            RingForms forms = new RingForms();
            Due.put(forms, shelf, 2, 3, 5, 7, -11);
            for (int i = 0; i <= 3; i++) {
                DUE.is("count of " + i + " after form of " + shelf, forms.count(i, 0), i == shelf ? 5 : 1);
                DUE.is("at of " + i + " after form of " + shelf, forms.at(i, 0), i == shelf ? 2 : 1);
            }
        }
    }

    /** x x - m y y goes just where m is a square. */
    private static void square(int m, int place, int want) {
        EDGE.of(new int[] {1, -m}, "goes at " + place, want, f -> f.goes(0, place));
        EDGE.of(new int[] {-m, 1}, "goes at " + place, want, f -> f.goes(0, place));
    }

    private static void squareAtTheLine() {
        square(1, 0, 1);
        square(-1, 0, 0);
        square(400, 0, 1);
        square(-400, 0, 0);
        square(2, 0, 1);
    }

    private static void squareAtOddPrimes() {
        square(1, 3, 1);
        square(2, 3, 0);
        square(3, 3, 0);
        square(6, 3, 0);
        square(9, 3, 1);
        square(18, 3, 0);
        square(27, 3, 0);
        square(81, 3, 1);
        square(243, 3, 0);
        square(-1, 3, 0);
        square(-2, 3, 1);
        square(-1, 5, 1);
        square(-9, 3, 0);
        square(-18, 3, 1);
        square(361, 19, 1);
        square(397, 397, 0);
        square(-397, 397, 0);
        square(396, 397, 1);
        square(-1, 397, 1);
        square(2, 397, 0);
    }

    private static void squareAtTwo() {
        for (int m = -399; m <= 399; m += 2) {
            square(m, 2, Math.floorMod(m, 8) == 1 ? 1 : 0);
        }
        square(2, 2, 0);
        square(4, 2, 1);
        square(8, 2, 0);
        square(12, 2, 0);
        square(20, 2, 0);
        square(28, 2, 0);
        square(-28, 2, 1);
        square(68, 2, 1);
        square(256, 2, 1);
        square(-256, 2, 0);
        square(34, 2, 0);
    }

    private static void oneNeverGoes() {
        for (int a : new int[] {1, -1, 4, 397, 400, -400}) {
            for (int place : PLACES) {
                EDGE.of(new int[] {a}, "goes at " + place, 0, f -> f.goes(0, place));
            }
            EDGE.of(new int[] {a}, "nought", 0, f -> f.nought(0));
        }
    }

    private static void twoGoIfMinusDIsSquare() {
        for (int place : PLACES) {
            EDGE.of(new int[] {400, -400}, "goes at " + place, 1, f -> f.goes(0, place));
            EDGE.of(new int[] {-397, 397}, "goes at " + place, 1, f -> f.goes(0, place));
            EDGE.of(new int[] {2, -8}, "goes at " + place, 1, f -> f.goes(0, place));
            int want = place % 4 == 1 ? 1 : 0;
            EDGE.of(new int[] {397, 397}, "goes at " + place, want, f -> f.goes(0, place));
        }
    }

    private static void threeGoByTheirSigns() {
        for (int place : PLACES) {
            boolean bars3 = place == 2 || place == 3;
            EDGE.of(new int[] {1, 1, -3}, "goes at " + place, bars3 ? 0 : 1, f -> f.goes(0, place));
            EDGE.of(new int[] {1, 1, 1}, "goes at " + place, place == 0 || place == 2 ? 0 : 1,
                    f -> f.goes(0, place));
            EDGE.of(new int[] {-1, -1, -1}, "goes at " + place, place == 0 || place == 2 ? 0 : 1,
                    f -> f.goes(0, place));
            boolean bars397 = place == 2 || place == 397;
            EDGE.of(new int[] {1, -2, 397}, "goes at " + place, bars397 ? 0 : 1, f -> f.goes(0, place));
            EDGE.of(new int[] {400, -400, 1}, "goes at " + place, 1, f -> f.goes(0, place));
        }
    }

    private static void fourGoIfDIsNoSquareOrByTheirSigns() {
        for (int place : PLACES) {
            // D is 1, H is 1: at 2 it is not the sign of -1 and -1.
            EDGE.of(new int[] {1, 1, 1, 1}, "goes at " + place, place == 0 || place == 2 ? 0 : 1,
                    f -> f.goes(0, place));
            // D is 1, and H the sign of -1 and -1 at all places.
            EDGE.of(new int[] {1, 1, -1, -1}, "goes at " + place, 1, f -> f.goes(0, place));
            // D is 7: a square at 3, no square at 2.
            EDGE.of(new int[] {1, 1, 1, 7}, "goes at " + place, place == 0 ? 0 : 1, f -> f.goes(0, place));
            // D is -7, at 2 a square; three squares do not make 7.
            EDGE.of(new int[] {1, 1, 1, -7}, "goes at " + place, place == 2 ? 0 : 1, f -> f.goes(0, place));
            EDGE.of(new int[] {1, 1, 1, -6}, "goes at " + place, 1, f -> f.goes(0, place));
            EDGE.of(new int[] {3, 3, -1, -1}, "goes at " + place, place == 2 || place == 3 ? 0 : 1,
                    f -> f.goes(0, place));
        }
    }

    private static void fiveGoAtPrimesEver() {
        int[][] rows = {{1, 1, 1, 1, 1}, {-1, -1, -1, -1, -1}, {400, 400, 400, 400, 400}, {2, 6, 10, 14, 22},
            {3, 3, -1, -1, 9}, {397, 397, 2, 2, 5}, {1, -2, 5, -10, 16}};
        for (int[] row : rows) {
            for (int place : PLACES) {
                if (place != 0) {
                    EDGE.of(row, "goes at " + place, 1, f -> f.goes(0, place));
                }
            }
        }
    }

    private static void anyNumberGoesAtTheLineIfSignsDiffer() {
        for (int n = 1; n <= 5; n++) {
            int[] above = new int[n];
            int[] below = new int[n];
            for (int i = 0; i < n; i++) {
                above[i] = 1 + i;
                below[i] = -400 + i;
            }
            EDGE.of(above, "goes at the line", 0, f -> f.goes(0, 0));
            EDGE.of(below, "goes at the line", 0, f -> f.goes(0, 0));
            for (int i = 0; n > 1 && i < n; i++) {
                EDGE.of(Edge.changed(above, i, -1), "goes at the line", 1, f -> f.goes(0, 0));
                EDGE.of(Edge.changed(below, i, 1), "goes at the line", 1, f -> f.goes(0, 0));
            }
        }
    }

    private static void bars(int[] row, int... want) {
        EDGE.of(row, "bars", want.length, f -> f.bars(0));
        EDGE.of(row, "nought", want.length == 0 ? 1 : 0, f -> f.nought(0));
        for (int i = 0; i < want.length; i++) {
            int at = i;
            EDGE.of(row, "bar " + at, want[at], f -> f.bar(0, at));
        }
        EDGE.of(row, "bar beyond the last", BAD, f -> f.bar(0, want.length));
        EDGE.of(row, "bar before the first", BAD, f -> f.bar(0, -1));
    }

    private static void barsAreAmong0And2AndPrimesInOrder() {
        bars(new int[] {1}, 0, 2);
        bars(new int[] {-1}, 0, 2);
        bars(new int[] {256}, 0, 2);
        bars(new int[] {397}, 0, 2, 397);
        bars(new int[] {330}, 0, 2, 3, 5, 11);
        bars(new int[] {-385}, 0, 2, 5, 7, 11);
        // Other places than these do not count, though x x + y y does not go at 3.
        bars(new int[] {1, 1}, 0, 2);
        bars(new int[] {1, -17}, 17);
        bars(new int[] {330, -91}, 2, 3, 5, 7, 11, 13);
        bars(new int[] {397, 330}, 0, 2, 3, 5, 11, 397);
        bars(new int[] {400, -1});
        bars(new int[] {3, -1, -1}, 2, 3);
        bars(new int[] {-1, 3, -1}, 2, 3);
        bars(new int[] {1, 1, 1}, 0, 2);
        bars(new int[] {1, 1, -2});
        bars(new int[] {1, -2, 397}, 2, 397);
        bars(new int[] {1, 1, 1, 1}, 0, 2);
        bars(new int[] {1, 1, 1, 7}, 0);
        bars(new int[] {1, 1, 1, -7}, 2);
        bars(new int[] {1, -2, 5, -10}, 2, 5);
        bars(new int[] {1, 2, 3, 5, 7}, 0);
        bars(new int[] {-400, -400, -400, -400, -400}, 0);
        bars(new int[] {1, 2, 3, 5, -7});
    }

    private static void threeAndMoreGoAtAllOthers() {
        int[][] rows = {{1, 1, 1}, {3, 5, 7}, {-400, -399, -397}, {1, 1, 1, 1}, {1, -2, 5, -10}, {1, 1, 1, 1, 1}};
        for (int[] row : rows) {
            for (int place : PLACES) {
                boolean other = place > 2;
                for (int c : row) {
                    other &= place > 2 && c % place != 0;
                }
                if (other) {
                    EDGE.of(row, "goes at other " + place, 1, f -> f.goes(0, place));
                }
            }
        }
    }

    private static void twoGoAtOthersJustIfMinusDIsWholeSquare() {
        int[][] squares = {{1, -1}, {1, -400}, {-2, 8}, {3, -12}, {397, -397}, {399, -399}};
        int[][] others = {{1, -2}, {1, 1}, {1, 4}, {1, -399}, {-2, -8}, {397, -396}};
        for (int[] row : squares) {
            DUE.is("places where it does not go: " + row[0] + ", " + row[1], placesOfNoGo(row), 0);
        }
        for (int[] row : others) {
            DUE.holds("there are others where it does not go: " + row[0] + ", " + row[1],
                    placesOfNoGo(row) > Edge.with(row).bars(0));
        }
    }

    private static int placesOfNoGo(int[] row) {
        RingForms forms = Edge.with(row);
        int found = 0;
        for (int place : PLACES) {
            found += forms.goes(0, place) == 0 ? 1 : 0;
        }
        return found;
    }

    private static void badStandsBeforeState() {
        EDGE.keeps("least(1, 0, 0)", NO + 1, f -> f.least(1, 0, 0));
        for (int kind : Edge.beyond(0, 2)) {
            EDGE.keeps("least(1, " + kind + ", 0)", NO, f -> f.least(1, kind, 0));
        }
        for (int what : Edge.beyond(0, 3)) {
            EDGE.keeps("least(1, 0, " + what + ")", NO, f -> f.least(1, 0, what));
        }
        // Of two and of five there is no such thing as a solution: BAD, not STATE.
        EDGE.keeps("least(2, 0, 0)", NO, f -> f.least(2, 0, 0));
        EDGE.keeps("least(3, 0, 0)", NO, f -> f.least(3, 0, 0));
    }

    /** No sentence asks for either: a shelf that has a form takes another, as often as it is asked. */
    private static void fullAndNoneAreNeverAnswered() {
        RingForms forms = new RingForms();
        for (int call = 0; call < 500; call++) {
            DUE.is("form for the " + call + "th time", forms.form(call % 4, 1 + call % 5, 1, 2, 3, 4, 5),
                    1 + call % 5);
        }
    }

    private static void the512thCallIsAnswered() {
        RingForms forms = new RingForms();
        for (int call = 1; call <= 511; call++) {
            DUE.is("measure, call " + call, forms.measure(2, 30, -30, 29), 126);
        }
        DUE.is("trace, call 512", forms.trace(), 511 * 111);
        RingForms other = new RingForms();
        for (int call = 1; call <= 511; call++) {
            other.form(0, 3, 400, -400, call % 400 + 1, 0, 0);
        }
        DUE.is("at, call 512", other.at(0, 2), 112);
    }
}
