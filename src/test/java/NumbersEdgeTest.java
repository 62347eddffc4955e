/** The boundary cases that promises 1 to 4 name: a new object, free, sign, odds. */
public final class NumbersEdgeTest {
    private static final Edge EDGE = new Edge();
    private static final Due DUE = EDGE.due;
    private static final int BAD = RingForms.BAD;
    private static final int LIMIT = 1000000;

    public static void main(String[] args) {
        newObjectHasXxOnEachShelf();
        freeOfNumbersToAMillion();
        freeOf0IsRefused();
        signOfNumbersToAMillion();
        signOf0IsRefused();
        signAtNoPlaceIsRefused();
        oddsOfNumbersTo400();
        oddsOf0IsRefused();
        oddsIsEvenEver();
        EDGE.end();
    }

    private static void newObjectHasXxOnEachShelf() {
        for (int shelf = 0; shelf <= 3; shelf++) {
            RingForms forms = new RingForms();
            DUE.is("count(" + shelf + ", 0) at first", forms.count(shelf, 0), 1);
            DUE.is("count(" + shelf + ", 1) at first", forms.count(shelf, 1), 1);
            DUE.is("at(" + shelf + ", 0) at first", forms.at(shelf, 0), 1);
            for (int i = 1; i <= 5; i++) {
                DUE.is("at(" + shelf + ", " + i + ") at first", forms.at(shelf, i), 0);
            }
            DUE.is("whole(" + shelf + ", 0) at first", forms.whole(shelf, 0), 1);
            DUE.is("whole(" + shelf + ", 1) at first", forms.whole(shelf, 1), 1);
            DUE.is("nought(" + shelf + ") at first", forms.nought(shelf), 0);
            DUE.is("worth(" + shelf + ", 0, 0, 0) at first", forms.worth(shelf, 0, 0, 0), RingForms.NO);
            DUE.is("least(" + shelf + ", 0, 0) at first", forms.least(shelf, 0, 0), RingForms.NO);
            DUE.is("alike(" + shelf + ", " + (3 - shelf) + ") at first", forms.alike(shelf, 3 - shelf), 1);
            DUE.is("trace() at first", forms.trace(), 0);
        }
    }

    private static void freeOfNumbersToAMillion() {
        EDGE.keeps("free(1000000)", 1, f -> f.free(LIMIT));
        EDGE.keeps("free(-1000000)", -1, f -> f.free(-LIMIT));
        EDGE.keeps("free(999999)", 111111, f -> f.free(LIMIT - 1));
        EDGE.keeps("free(-999999)", -111111, f -> f.free(1 - LIMIT));
        EDGE.keeps("free(1)", 1, f -> f.free(1));
        EDGE.keeps("free(-1)", -1, f -> f.free(-1));
        for (int a : Edge.beyond(-LIMIT, LIMIT)) {
            EDGE.keeps("free(" + a + ")", 0, f -> f.free(a));
        }
        // A square beyond the last, that its own square root would divide.
        EDGE.keeps("free(1002001)", 0, f -> f.free(1002001));
    }

    private static void freeOf0IsRefused() {
        EDGE.keeps("free(0)", 0, f -> f.free(0));
    }

    private static void signOfNumbersToAMillion() {
        for (int place : new int[] {0, 2, 3, 5, 397}) {
            for (int a : new int[] {-LIMIT, 1 - LIMIT, LIMIT - 1, LIMIT}) {
                for (int b : new int[] {-LIMIT, LIMIT, 1, -1, 2, 3}) {
                    int want = Oracle.signByExponents(a, b, place);
                    EDGE.keeps("sign(" + a + ", " + b + ", " + place + ")", want, f -> f.sign(a, b, place));
                    EDGE.keeps("sign(" + b + ", " + a + ", " + place + ")", want, f -> f.sign(b, a, place));
                }
            }
            for (int a : Edge.beyond(-LIMIT, LIMIT)) {
                refusesSign(a, place);
            }
        }
    }

    private static void signOf0IsRefused() {
        for (int place : new int[] {0, 2, 3, 5, 397}) {
            refusesSign(0, place);
        }
    }

    private static void refusesSign(int a, int place) {
        EDGE.keeps("sign(" + a + ", 1, " + place + ")", BAD, f -> f.sign(a, 1, place));
        EDGE.keeps("sign(1, " + a + ", " + place + ")", BAD, f -> f.sign(1, a, place));
        EDGE.keeps("sign(" + a + ", " + a + ", " + place + ")", BAD, f -> f.sign(a, a, place));
    }

    private static void signAtNoPlaceIsRefused() {
        for (int place : new int[] {-2, -1, 1, 4, 6, 9, 361, 391, 396, 398, 400, 401, 409}) {
            EDGE.keeps("sign(2, 3, " + place + ")", BAD, f -> f.sign(2, 3, place));
        }
        for (int place : new int[] {Integer.MIN_VALUE, Integer.MAX_VALUE}) {
            EDGE.keeps("sign(2, 3, " + place + ")", BAD, f -> f.sign(2, 3, place));
        }
    }

    private static void oddsOfNumbersTo400() {
        EDGE.keeps("odds(400, 400)", 0, f -> f.odds(400, 400));
        EDGE.keeps("odds(-400, -400)", 2, f -> f.odds(-400, -400));
        EDGE.keeps("odds(-400, 400)", 0, f -> f.odds(-400, 400));
        EDGE.keeps("odds(400, -400)", 0, f -> f.odds(400, -400));
        EDGE.keeps("odds(-400, -1)", 2, f -> f.odds(-400, -1));
        EDGE.keeps("odds(1, 1)", 0, f -> f.odds(1, 1));
        // At 2 and at the last of the places.
        EDGE.keeps("odds(397, 2)", 2, f -> f.odds(397, 2));
        EDGE.keeps("odds(2, 397)", 2, f -> f.odds(2, 397));
        // At the line and at the last of the places but two.
        EDGE.keeps("odds(-1, -383)", 2, f -> f.odds(-1, -383));
        for (int a : Edge.beyond(-400, 400)) {
            refusesOdds(a);
        }
    }

    private static void oddsOf0IsRefused() {
        refusesOdds(0);
    }

    private static void refusesOdds(int a) {
        EDGE.keeps("odds(" + a + ", 1)", BAD, f -> f.odds(a, 1));
        EDGE.keeps("odds(1, " + a + ")", BAD, f -> f.odds(1, a));
        EDGE.keeps("odds(" + a + ", " + a + ")", BAD, f -> f.odds(a, a));
    }

    private static void oddsIsEvenEver() {
        for (int a = -400; a <= 400; a++) {
            RingForms forms = new RingForms();
            for (int b : new int[] {-400, -399, -397, -330, -3, -2, -1, 1, 2, 3, 5, 6, 7, 330, 385, 397, 399, 400}) {
                int odds = a == 0 ? 0 : forms.odds(a, b);
                DUE.holds("odds(" + a + ", " + b + ") is even: " + odds, odds >= 0 && odds % 2 == 0);
            }
        }
    }
}
