import java.util.Arrays;

/** The boundary cases that promises 15 to 19 and 21 name: worth, measure, least, many, line, trace. */
public final class SolutionsEdgeTest {
    private static final Edge EDGE = new Edge();
    private static final Due DUE = EDGE.due;
    private static final int BAD = RingForms.BAD;
    private static final long NO = RingForms.NO;
    private static final int[][] NOT_OF_THREE = {{1}, {1, -1}, {1, 1, -2, 1}, {1, 1, -2, 1, -1}};

    public static void main(String[] args) {
        worthOfNumbersTo1000();
        worthOfNotThreeIsRefused();
        worthOfTheGreatest();
        measureOfNumbersTo30();
        measureOfEachKind();
        measureOfNothing();
        leastOfEachKind();
        leastOfEachWhat();
        leastWithoutSolutionIsState();
        leastOfNotThreeIsRefused();
        leastOfSeveralIsTheFirst();
        manyOfNoneAndOfNotThree();
        solutionsAreFromMinus30To30();
        solutionsHaveNoCommonDivisor();
        solutionsBeginAbove0();
        lineThroughNoSolutionIsRefused();
        lineThroughTheLastSolution();
        lineByWaysTo30();
        lineByNoWayIsRefused();
        lineOfEachWhat();
        lineOfNotThreeIsRefused();
        lineIsPWhereThatIsAll0();
        lineBeginsAbove0WithoutCommonDivisor();
        traceCountsMeasureAlone();
        EDGE.end();
    }

    private static int[] three(int i, int number, int others) {
        return Edge.changed(new int[] {others, others, others}, i, number);
    }

    private static void worthOfNumbersTo1000() {
        int[] row = Edge.ROWS[0];
        for (int i = 0; i < 3; i++) {
            for (int size : new int[] {0, 1, 999, 1000}) {
                int[] p = three(i, size, 0);
                int[] m = three(i, -size, 0);
                long want = (long) row[i] * size * size;
                EDGE.keeps("worth at " + Arrays.toString(p), want, f -> f.worth(0, p[0], p[1], p[2]));
                EDGE.keeps("worth at " + Arrays.toString(m), want, f -> f.worth(0, m[0], m[1], m[2]));
            }
            for (int number : Edge.beyond(-1000, 1000)) {
                int[] p = three(i, number, 1);
                EDGE.keeps("worth at " + Arrays.toString(p), NO, f -> f.worth(0, p[0], p[1], p[2]));
            }
        }
        EDGE.keeps("worth at 0, 0, 0", 0, f -> f.worth(0, 0, 0, 0));
    }

    private static void worthOfNotThreeIsRefused() {
        for (int[] row : NOT_OF_THREE) {
            EDGE.of(row, "worth", NO, f -> f.worth(0, 1, 1, 1));
            EDGE.of(row, "worth at 0", NO, f -> f.worth(0, 0, 0, 0));
        }
        EDGE.keeps("worth(2, ..)", NO, f -> f.worth(2, 1, 1, 1));
        EDGE.keeps("worth(3, ..)", NO, f -> f.worth(3, 1, 1, 1));
    }

    private static void worthOfTheGreatest() {
        EDGE.of(new int[] {400, 400, 400}, "worth", 1200000000L, f -> f.worth(0, 1000, -1000, 1000));
        EDGE.of(new int[] {-400, -400, -400}, "worth", -1200000000L, f -> f.worth(0, -1000, 1000, 1000));
        EDGE.of(new int[] {400, -400, -1}, "worth", -1000000L, f -> f.worth(0, 1000, 1000, -1000));
    }

    private static void measures(int x, int y, int z, int great, int wide, int odd) {
        int[] want = {great, wide, odd};
        for (int kind = 0; kind < 3; kind++) {
            RingForms forms = new RingForms();
            String call = "measure(" + kind + ", " + x + ", " + y + ", " + z + ")";
            DUE.is(call, forms.measure(kind, x, y, z), want[kind]);
            DUE.is("trace after " + call, forms.trace(), new int[] {1, 11, 111}[kind]);
        }
    }

    private static void measureOfNumbersTo30() {
        measures(30, 30, 30, 30, 120, 120);
        measures(-30, -30, -30, 30, 120, 120);
        measures(-30, 0, 30, 30, 90, 90);
        measures(29, -29, 29, 29, 116, 137);
        for (int i = 0; i < 3; i++) {
            int[] most = three(i, 30, 0);
            int[] least = three(i, -30, 0);
            measures(most[0], most[1], most[2], 30, 60, 60);
            measures(least[0], least[1], least[2], 30, 60, 60);
            for (int number : Edge.beyond(-30, 30)) {
                int[] p = three(i, number, 1);
                for (int kind = 0; kind < 3; kind++) {
                    int asked = kind;
                    EDGE.keeps("measure " + kind + " at " + Arrays.toString(p), BAD,
                            f -> f.measure(asked, p[0], p[1], p[2]));
                }
            }
        }
    }

    private static void measureOfEachKind() {
        measures(1, 0, 0, 1, 2, 9);
        measures(0, -1, 0, 1, 2, 9);
        measures(0, 0, 1, 1, 2, 9);
        measures(-1, -1, 2, 2, 6, 20);
        measures(1, -1, 1, 1, 4, 25);
        for (int kind : Edge.beyond(0, 2)) {
            EDGE.keeps("measure(" + kind + ", 1, 1, 1)", BAD, f -> f.measure(kind, 1, 1, 1));
        }
    }

    /** The promise asks for numbers -30 .. 30, and not that one is not 0. */
    private static void measureOfNothing() {
        measures(0, 0, 0, 0, 0, 0);
    }

    private static void least(int[] row, int kind, int x, int y, int z, int measure) {
        EDGE.of(row, "least " + kind + ", x", x, f -> f.least(0, kind, 0));
        EDGE.of(row, "least " + kind + ", y", y, f -> f.least(0, kind, 1));
        EDGE.of(row, "least " + kind + ", z", z, f -> f.least(0, kind, 2));
        EDGE.of(row, "least " + kind + ", its measure", measure, f -> f.least(0, kind, 3));
    }

    private static void leastOfEachKind() {
        int[] unlike = {-2, -14, 32};
        least(unlike, 0, 1, -3, -2, 3);
        least(unlike, 1, 3, -1, -1, 8);
        least(unlike, 2, 4, 0, -1, 16);
        for (int kind : Edge.beyond(0, 2)) {
            for (int what = 0; what <= 3; what++) {
                int asked = what;
                EDGE.keeps("least(0, " + kind + ", " + what + ")", NO, f -> f.least(0, kind, asked));
            }
        }
    }

    private static void leastOfEachWhat() {
        EDGE.keeps("least(0, 0, 0)", 1, f -> f.least(0, 0, 0));
        EDGE.keeps("least(0, 0, 1)", -1, f -> f.least(0, 0, 1));
        EDGE.keeps("least(0, 0, 2)", -1, f -> f.least(0, 0, 2));
        EDGE.keeps("least(0, 2, 3)", 25, f -> f.least(0, 2, 3));
        for (int what : Edge.beyond(0, 3)) {
            for (int kind = 0; kind < 3; kind++) {
                int asked = kind;
                EDGE.keeps("least(0, " + kind + ", " + what + ")", NO, f -> f.least(0, asked, what));
            }
        }
    }

    private static void leastWithoutSolutionIsState() {
        for (int kind = 0; kind < 3; kind++) {
            for (int what = 0; what <= 3; what++) {
                int by = kind;
                int asked = what;
                EDGE.keeps("least(1, " + kind + ", " + what + ")", NO + 1, f -> f.least(1, by, asked));
                EDGE.of(new int[] {1, 1, -3}, "least", NO + 1, f -> f.least(0, by, asked));
                // The only ones have 31, whichever place it has.
                EDGE.of(new int[] {1, -194, -185}, "least", NO + 1, f -> f.least(0, by, asked));
                EDGE.of(new int[] {-194, 1, -185}, "least", NO + 1, f -> f.least(0, by, asked));
                EDGE.of(new int[] {-194, -185, 1}, "least", NO + 1, f -> f.least(0, by, asked));
            }
        }
        // A least that was found before is not one of a form without.
        RingForms forms = Edge.known();
        DUE.is("least of shelf 0", forms.least(0, 1, 3), 4);
        DUE.is("least of shelf 1 after that", forms.least(1, 1, 3), NO + 1);
        DUE.is("least of shelf 0 after that", forms.least(0, 1, 3), 4);
    }

    private static void leastOfNotThreeIsRefused() {
        for (int[] row : NOT_OF_THREE) {
            for (int what = 0; what <= 3; what++) {
                int asked = what;
                EDGE.of(row, "least 0, " + what, NO, f -> f.least(0, 0, asked));
            }
        }
    }

    private static void leastOfSeveralIsTheFirst() {
        for (int kind = 0; kind < 3; kind++) {
            // By x: 0, 1, 2 and 2, 1, 0 measure the same.
            least(new int[] {1, -4, 1}, kind, 0, 1, -2, new int[] {2, 5, 12}[kind]);
            // By y: 1, 3, 1 and 1, 1, 3 measure the same.
            least(new int[] {10, -1, -1}, kind, 1, -3, -1, new int[] {3, 8, 29}[kind]);
            // By z: 10, 0, -1 and 10, 0, 1 measure the same.
            least(new int[] {1, -200, -100}, kind, 10, 0, -1, new int[] {10, 21, 28}[kind]);
        }
    }

    private static void many(int want, int... row) {
        EDGE.of(row, "many", want, f -> f.many(0));
    }

    private static void manyOfNoneAndOfNotThree() {
        EDGE.keeps("many(0)", 28, f -> f.many(0));
        EDGE.keeps("many(1)", 0, f -> f.many(1));
        EDGE.keeps("many(2)", BAD, f -> f.many(2));
        EDGE.keeps("many(3)", BAD, f -> f.many(3));
        for (int[] row : NOT_OF_THREE) {
            many(BAD, row);
        }
        many(0, 1, 1, -3);
        many(0, -400, -400, -400);
    }

    private static void solutionsAreFromMinus30To30() {
        // 30, 1, 2 alone, with its signs.
        many(4, 1, -228, -168);
        many(4, -228, 1, -168);
        many(4, -228, -168, 1);
        least(new int[] {1, -228, -168}, 0, 30, -1, -2, 30);
        least(new int[] {-228, 1, -168}, 0, 1, -30, -2, 30);
        least(new int[] {-228, -168, 1}, 0, 1, -2, -30, 30);
        // 31, 2, 1 alone.
        many(0, 1, -194, -185);
        many(0, -194, 1, -185);
        many(0, -194, -185, 1);
    }

    private static void solutionsHaveNoCommonDivisor() {
        // 20, 1, 0 with its signs alone; then 1, 1, 0 with its signs alone, and not 2, 2, 0 or 30, 30, 0.
        many(2, 1, -400, 397);
        many(2, 400, -400, 397);
        least(new int[] {400, -400, 397}, 1, 1, -1, 0, 3);
    }

    private static void solutionsBeginAbove0() {
        least(new int[] {1, 1, -1}, 0, 0, 1, -1, 1);
        least(new int[] {397, 1, -1}, 0, 0, 1, -1, 1);
        least(new int[] {1, -1, -1}, 0, 1, -1, 0, 1);
        for (int what = 0; what < 3; what++) {
            int asked = what;
            EDGE.of(new int[] {1, 1, -2}, "line through -1, 1, 1", NO, f -> f.line(0, -1, 1, 1, 1, 2, 3, asked));
            EDGE.of(new int[] {1, 1, -1}, "line through 0, -1, 1", NO, f -> f.line(0, 0, -1, 1, 1, 2, 3, asked));
        }
    }

    private static void refusesLine(int[] row, int x, int y, int z) {
        for (int what = 0; what < 3; what++) {
            int asked = what;
            EDGE.of(row, "line through " + x + ", " + y + ", " + z, NO, f -> f.line(0, x, y, z, 1, 2, 3, asked));
        }
    }

    private static void lineThroughNoSolutionIsRefused() {
        int[] row = {1, 1, -2};
        refusesLine(row, 1, 1, 2);
        refusesLine(row, 0, 0, 1);
        refusesLine(row, 0, 0, 0);
        refusesLine(row, 2, 2, 2);
        refusesLine(row, 30, 30, 30);
        refusesLine(row, -1, -1, -1);
        refusesLine(row, 31, 17, 25);
        refusesLine(row, 17, 31, 25);
        refusesLine(new int[] {1, -194, -185}, 31, 2, 1);
        refusesLine(new int[] {-194, 1, -185}, 2, 31, 1);
        refusesLine(new int[] {-194, 1, -185}, 2, -31, 1);
        refusesLine(new int[] {-194, -185, 1}, 2, 1, 31);
        refusesLine(new int[] {-194, -185, 1}, 2, 1, -31);
        refusesLine(row, Integer.MIN_VALUE, 0, 0);
        refusesLine(row, Integer.MAX_VALUE, 1, 1);
        refusesLine(row, 1, Integer.MIN_VALUE, 1);
        refusesLine(row, 1, 1, Integer.MIN_VALUE);
        EDGE.keeps("line(0, 1, 1, 2, ..)", NO, f -> f.line(0, 1, 1, 2, 1, 0, 0, 0));
        EDGE.keeps("line(0, 2, 2, 2, ..)", NO, f -> f.line(0, 2, 2, 2, 1, 0, 0, 0));
        EDGE.keeps("line(0, 0, 0, 0, ..)", NO, f -> f.line(0, 0, 0, 0, 1, 0, 0, 0));
        EDGE.keeps("line(1, 0, 0, 0, ..)", NO, f -> f.line(1, 0, 0, 0, 1, 0, 0, 0));
    }

    private static void line(int[] row, int[] p, int[] w, long... want) {
        for (int what = 0; what < 3; what++) {
            int asked = what;
            EDGE.of(row, "line through " + Arrays.toString(p) + " by " + Arrays.toString(w) + ", " + what,
                    want[what], f -> f.line(0, p[0], p[1], p[2], w[0], w[1], w[2], asked));
        }
    }

    private static void lineThroughTheLastSolution() {
        int[] x = {1, 0, 0};
        line(new int[] {1, -228, -168}, new int[] {30, 1, 2}, x, 30, -1, -2);
        line(new int[] {1, -228, -168}, new int[] {30, -1, 2}, x, 30, 1, -2);
        line(new int[] {-228, 1, -168}, new int[] {1, -30, 2}, x, 1, 30, -2);
        line(new int[] {-228, -168, 1}, new int[] {1, 2, -30}, x, 1, -2, 30);
    }

    private static void lineByWaysTo30() {
        int[] row = {1, 1, -2};
        int[] p = {1, 1, 1};
        line(row, p, new int[] {30, 0, 0}, 1, -1, -1);
        line(row, p, new int[] {-30, 0, 0}, 1, -1, -1);
        line(row, p, new int[] {0, 30, 0}, 1, -1, 1);
        line(row, p, new int[] {0, -30, 0}, 1, -1, 1);
        line(row, p, new int[] {0, 0, 30}, 1, 1, -1);
        line(row, p, new int[] {0, 0, -30}, 1, 1, -1);
        line(new int[] {399, -398, -1}, p, new int[] {30, -29, 17}, 1385607, -1386803, 774737);
        for (int i = 0; i < 3; i++) {
            for (int number : Edge.beyond(-30, 30)) {
                int[] w = three(i, number, 0);
                for (int what = 0; what < 3; what++) {
                    int asked = what;
                    EDGE.keeps("line by " + Arrays.toString(w) + ", " + what, NO,
                            f -> f.line(0, 1, 1, 1, w[0], w[1], w[2], asked));
                }
            }
        }
    }

    private static void lineByNoWayIsRefused() {
        for (int what = 0; what < 3; what++) {
            int asked = what;
            EDGE.keeps("line by 0, 0, 0, " + what, NO, f -> f.line(0, 1, 1, 1, 0, 0, 0, asked));
        }
    }

    private static void lineOfEachWhat() {
        EDGE.keeps("line's x", 17, f -> f.line(0, 1, 1, 1, 2, 3, 5, 0));
        EDGE.keeps("line's y", 7, f -> f.line(0, 1, 1, 1, 2, 3, 5, 1));
        EDGE.keeps("line's z", -13, f -> f.line(0, 1, 1, 1, 2, 3, 5, 2));
        for (int what : Edge.beyond(0, 2)) {
            EDGE.keeps("line's " + what, NO, f -> f.line(0, 1, 1, 1, 2, 3, 5, what));
        }
    }

    private static void lineOfNotThreeIsRefused() {
        for (int[] row : NOT_OF_THREE) {
            for (int what = 0; what < 3; what++) {
                int asked = what;
                EDGE.of(row, "line's " + what, NO, f -> f.line(0, 1, 1, 1, 1, 0, 0, asked));
            }
        }
        // The first two numbers make the form of two 0.
        EDGE.of(new int[] {1, -1}, "line through 1, 1, 0", NO, f -> f.line(0, 1, 1, 0, 1, 0, 0, 0));
        EDGE.keeps("line(2, 2, 1, 0, ..)", NO, f -> f.line(2, 2, 1, 0, 1, 0, 0, 0));
        EDGE.keeps("line(3, 1, 1, 1, ..)", NO, f -> f.line(3, 1, 1, 1, 1, 0, 0, 0));
    }

    /** The way is P, or P so many times, forth or back. */
    private static void lineIsPWhereThatIsAll0() {
        int[] row = {1, 1, -2};
        for (int times : new int[] {1, -1, 2, 30, -30}) {
            line(row, new int[] {1, 1, 1}, new int[] {times, times, times}, 1, 1, 1);
            line(row, new int[] {1, -1, -1}, new int[] {times, -times, -times}, 1, -1, -1);
        }
        for (int turn : new int[] {1, -1}) {
            line(row, new int[] {7, -1, 5}, new int[] {7 * turn, -turn, 5 * turn}, 7, -1, 5);
            line(new int[] {1, 1, -1}, new int[] {0, 1, -1}, new int[] {0, 30 * turn, -30 * turn}, 0, 1, -1);
            line(new int[] {1, -228, -168}, new int[] {30, 1, 2}, new int[] {30 * turn, turn, 2 * turn}, 30, 1, 2);
        }
    }

    private static void lineBeginsAbove0WithoutCommonDivisor() {
        int[] row = {1, 1, -2};
        int[] p = {1, 1, 1};
        // The way makes the form 0 itself: the point is the way's, its first number above 0.
        line(row, p, new int[] {-7, 1, 5}, 7, -1, -5);
        line(row, p, new int[] {14, 2, -10}, 7, 1, -5);
        // B is 0: the point is P, times a number above or below 0.
        line(row, p, new int[] {1, -1, 0}, 1, 1, 1);
        line(row, p, new int[] {3, 1, 2}, 1, 1, 1);
        line(row, p, new int[] {-30, 30, 0}, 1, 1, 1);
        // Its first number that is not 0 is the second.
        line(new int[] {1, 1, -1}, new int[] {0, 1, 1}, new int[] {0, 1, 0}, 0, 1, -1);
        line(new int[] {1, 1, -1}, new int[] {0, 1, 1}, new int[] {0, 0, 1}, 0, 1, -1);
        line(new int[] {1, 1, -1}, new int[] {1, 0, 1}, new int[] {1, 1, 0}, 0, 1, -1);
    }

    private static void traceCountsMeasureAlone() {
        EDGE.keeps("trace()", Edge.TRACE, f -> f.trace());
        RingForms forms = new RingForms();
        DUE.is("trace at first", forms.trace(), 0);
        forms.measure(0, 30, 30, 30);
        DUE.is("trace after GREAT", forms.trace(), 1);
        forms.measure(1, 0, 0, 0);
        DUE.is("trace after WIDE", forms.trace(), 12);
        forms.measure(2, -30, -30, -30);
        DUE.is("trace after ODD", forms.trace(), 123);
        forms.measure(3, 0, 0, 0);
        forms.measure(-1, 0, 0, 0);
        forms.measure(2, 31, 0, 0);
        forms.measure(1, 0, -31, 0);
        forms.measure(0, 0, 0, 31);
        DUE.is("trace after refused measures", forms.trace(), 123);
        forms.form(0, 3, 1, 1, -2, 0, 0);
        forms.least(0, 2, 3);
        forms.least(0, 1, 0);
        forms.many(0);
        forms.trace();
        DUE.is("trace after other calls", forms.trace(), 123);
        // The trace is that of one object.
        DUE.is("trace of another object", new RingForms().trace(), 0);
    }
}
