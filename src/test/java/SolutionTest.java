import java.util.ArrayList;
import java.util.Arrays;
import java.util.List;

/** Promises 15, 17, 18 and 19: worth, least, many, line. */
public final class SolutionTest {
    private static final Due DUE = new Due();
    private static final long NO = RingForms.NO;
    private static final int[] NO_SHELVES = {-1, 4, 5, 100, Integer.MIN_VALUE, Integer.MAX_VALUE};
    private static final int[][] ROWS = {
        {1, 1, -1}, {1, 1, -2}, {1, -1, 1}, {-1, 1, 1}, {1, 1, -5}, {2, 3, -5}, {3, -2, -1}, {1, -4, 9},
        {4, 9, -25}, {1, 1, -3}, {1, 1, 1}, {-2, -3, -5}, {399, -398, -1}, {400, -400, 1}, {-400, 400, -400},
        {400, -1, -1}, {1, 400, -400}, {7, -5, -3}, {6, -11, 5}, {100, -1, 396}, {1, -30, 6},
        {-1, 2, 400}, {1, -225, 4}, {1, 225, -361}, {13, -17, 29}, {361, -400, 39}, {1, -2, -7}, {2, -2, 397},
        // With solutions 30, 2, 1 and 31, 2, 1 in other orders, for the edges of the numbers.
        {1, -200, -100}, {-200, 1, -100}, {-200, -100, 1}, {1, -240, -1}, {-240, 1, -1}, {-240, -1, 1}};

    public static void main(String[] args) {
        worthOfNumbers();
        for (int[] row : ROWS) {
            leastAndMany(row);
            lines(row);
        }
        wrongWorth();
        wrongLeastAndMany();
        wrongLines();
        DUE.end();
    }

    private static RingForms with(int shelf, int... row) {
        RingForms forms = new RingForms();
        DUE.is("form " + Arrays.toString(row), Due.put(forms, shelf, row), row.length);
        return forms;
    }

    private static long worth(int[] row, long x, long y, long z) {
        return row[0] * x * x + row[1] * y * y + row[2] * z * z;
    }

    private static void worthOfNumbers() {
        int[] numbers = {0, 1, -1, 2, -7, 30, 999, 1000, -1000};
        for (int[] row : ROWS) {
            for (int x : numbers) {
                RingForms forms = with(2, row);
                for (int y : numbers) {
                    for (int z : numbers) {
                        DUE.is("worth(" + x + ", " + y + ", " + z + ") of " + Arrays.toString(row),
                                forms.worth(2, x, y, z), worth(row, x, y, z));
                    }
                }
            }
        }
        DUE.is("the greatest worth", with(0, 400, 400, 400).worth(0, 1000, -1000, 1000), 1200000000L);
    }

    private static List<int[]> solutions(int[] row) {
        List<int[]> solutions = new ArrayList<>();
        for (int x = -30; x <= 30; x++) {
            for (int y = -30; y <= 30; y++) {
                for (int z = -30; z <= 30; z++) {
                    if (worth(row, x, y, z) == 0 && divisor(x, y, z) == 1 && first(x, y, z) > 0) {
                        solutions.add(new int[] {x, y, z});
                    }
                }
            }
        }
        return solutions;
    }

    private static long first(long x, long y, long z) {
        return x != 0 ? x : y != 0 ? y : z;
    }

    private static long divisor(long x, long y, long z) {
        long a = Math.abs(x);
        for (long b : new long[] {Math.abs(y), Math.abs(z)}) {
            while (b != 0) {
                long rest = a % b;
                a = b;
                b = rest;
            }
        }
        return a;
    }

    private static int measure(int kind, int[] s) {
        int greatest = 0;
        int sum = 0;
        int odd = 0;
        for (int n : s) {
            greatest = Math.max(greatest, Math.abs(n));
            sum += Math.abs(n);
            odd += n % 2 != 0 ? 1 : 0;
        }
        return greatest + (kind > 0 ? sum : 0) + (kind > 1 ? 7 * odd : 0);
    }

    private static void leastAndMany(int[] row) {
        RingForms forms = with(1, row);
        List<int[]> solutions = solutions(row);
        String of = " of " + Arrays.toString(row);
        DUE.is("many" + of, forms.many(1), solutions.size());
        for (int kind = 0; kind < 3; kind++) {
            int[] least = null;
            for (int[] s : solutions) {
                if (least == null || measure(kind, s) < measure(kind, least)) {
                    least = s;
                }
            }
            for (int what = 0; what < 4; what++) {
                long want = least == null ? NO + 1 : what < 3 ? least[what] : measure(kind, least);
                DUE.is("least " + kind + ", " + what + of, forms.least(1, kind, what), want);
            }
        }
        DUE.is("trace after least" + of, forms.trace(), 0);
    }

    private static void lines(int[] row) {
        int[] steps = {-30, -29, -11, -3, -1, 0, 1, 2, 7, 30};
        List<int[]> solutions = solutions(row);
        for (int i = 0; i < solutions.size(); i += 1 + solutions.size() / 8) {
            int[] p = solutions.get(i);
            for (int u : steps) {
                for (int v : steps) {
                    for (int w : steps) {
                        if (u != 0 || v != 0 || w != 0) {
                            line(row, p, u, v, w);
                        }
                    }
                }
            }
            line(row, p, p[0], p[1], p[2]);
            line(row, p, -p[0], -p[1], -p[2]);
        }
    }

    private static void line(int[] row, int[] p, int u, int v, int w) {
        RingForms forms = with(3, row);
        long f = worth(row, u, v, w);
        long b = (long) row[0] * p[0] * u + (long) row[1] * p[1] * v + (long) row[2] * p[2] * w;
        long[] point = {f * p[0] - 2 * b * u, f * p[1] - 2 * b * v, f * p[2] - 2 * b * w};
        long divisor = divisor(point[0], point[1], point[2]);
        long turn = first(point[0], point[1], point[2]) < 0 ? -1 : 1;
        long[] got = new long[3];
        for (int what = 0; what < 3; what++) {
            long want = divisor == 0 ? p[what] : turn * (point[what] / divisor);
            got[what] = forms.line(3, p[0], p[1], p[2], u, v, w, what);
            DUE.is("line through " + Arrays.toString(p) + " by " + u + ", " + v + ", " + w + ", " + what + " of "
                    + Arrays.toString(row), got[what], want);
        }
        DUE.is("the line's point makes 0 of " + Arrays.toString(row), worth(row, got[0], got[1], got[2]), 0);
    }

    private static void wrongWorth() {
        for (int shelf : NO_SHELVES) {
            DUE.is("worth(" + shelf + ", ..)", with(0, 1, 1, -1).worth(shelf, 1, 1, 1), NO);
        }
        int[][] others = {{1}, {1, 1}, {1, 1, 1, 1}, {1, 1, 1, 1, 1}};
        for (int[] row : others) {
            DUE.is("worth of " + row.length, with(0, row).worth(0, 1, 1, 1), NO);
        }
        int[] wrong = {1001, -1001, Integer.MIN_VALUE, Integer.MAX_VALUE};
        RingForms forms = with(0, 1, 1, -1);
        for (int x : wrong) {
            DUE.is("worth at " + x + ", 0, 0", forms.worth(0, x, 0, 0), NO);
            DUE.is("worth at 0, " + x + ", 0", forms.worth(0, 0, x, 0), NO);
            DUE.is("worth at 0, 0, " + x, forms.worth(0, 0, 0, x), NO);
        }
    }

    private static void wrongLeastAndMany() {
        RingForms forms = with(0, 1, 1, -1);
        for (int shelf : NO_SHELVES) {
            DUE.is("least(" + shelf + ", 0, 0)", forms.least(shelf, 0, 0), NO);
            DUE.is("many(" + shelf + ")", forms.many(shelf), RingForms.BAD);
        }
        int[][] others = {{1}, {1, -1}, {1, 1, -1, -1}, {1, 1, 1, -1, -1}};
        for (int[] row : others) {
            DUE.is("least of " + row.length, with(0, row).least(0, 0, 0), NO);
            DUE.is("many of " + row.length, with(0, row).many(0), RingForms.BAD);
        }
        int[] wrong = {-1, 4, 5, Integer.MIN_VALUE, Integer.MAX_VALUE};
        RingForms none = with(0, 1, 1, 1);
        for (int w : wrong) {
            DUE.is("least(0, " + w + ", 0)", forms.least(0, w, 0), NO);
            DUE.is("least(0, 0, " + w + ")", forms.least(0, 0, w), NO);
            DUE.is("BAD ahead of STATE, kind " + w, none.least(0, w, 0), NO);
            DUE.is("BAD ahead of STATE, what " + w, none.least(0, 0, w), NO);
        }
        DUE.is("least(0, 3, 0)", forms.least(0, 3, 0), NO);
    }

    private static void wrongLines() {
        RingForms forms = with(0, 1, 1, -2);
        int[][] noSolutions = {{1, 1, 2}, {-1, 1, 1}, {-1, -1, -1}, {2, 2, 2}, {0, 0, 0}, {31, 17, 25}, {-7, -1, 5},
            {Integer.MIN_VALUE, 0, 0}, {0, Integer.MAX_VALUE, 0}, {1, 65537, 1}, {1, 1, Integer.MIN_VALUE}};
        for (int[] p : noSolutions) {
            DUE.is("line through " + Arrays.toString(p), forms.line(0, p[0], p[1], p[2], 1, 0, 0, 0), NO);
        }
        DUE.is("line through 0, -1, 2", with(0, 1, 4, -1).line(0, 0, -1, 2, 1, 0, 0, 0), NO);
        int[] wrong = {31, -31, Integer.MIN_VALUE, Integer.MAX_VALUE};
        for (int w : wrong) {
            DUE.is("line by " + w + ", 0, 0", forms.line(0, 1, 1, 1, w, 0, 0, 0), NO);
            DUE.is("line by 0, " + w + ", 0", forms.line(0, 1, 1, 1, 0, w, 0, 0), NO);
            DUE.is("line by 0, 0, " + w, forms.line(0, 1, 1, 1, 0, 0, w, 0), NO);
        }
        DUE.is("line by 0, 0, 0", forms.line(0, 1, 1, 1, 0, 0, 0, 1), NO);
        int[] noWhat = {-1, 3, Integer.MIN_VALUE, Integer.MAX_VALUE};
        for (int what : noWhat) {
            DUE.is("line's " + what, forms.line(0, 1, 1, 1, 1, 0, 0, what), NO);
        }
        for (int shelf : NO_SHELVES) {
            DUE.is("line(" + shelf + ", ..)", forms.line(shelf, 1, 1, 1, 1, 0, 0, 0), NO);
        }
        int[][] others = {{1}, {1, -1}, {1, 1, -2, 5}, {1, 1, -2, 5, 5}};
        for (int[] row : others) {
            DUE.is("line of " + row.length, with(0, row).line(0, 1, 1, 1, 1, 0, 0, 0), NO);
        }
    }
}
