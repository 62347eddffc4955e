import java.util.ArrayList;
import java.util.Arrays;
import java.util.List;

/**
 * Asks a call of a new object with known forms and a known trace, looks at its answer, and looks whether it left
 * the forms and the trace as they were. An object is asked far fewer than 512 calls.
 */
final class Edge {
    /** Of three with solutions, of three without, of two, of five. */
    static final int[][] ROWS = {{1, 1, -2}, {1, 1, 1}, {2, -8}, {1, 2, 3, 5, -7}};
    static final int TRACE = 111;

    /** A call, or several of one object. */
    interface Call {
        long of(RingForms forms);
    }

    final Due due = new Due();
    private final List<Long> before = seen(known());

    static RingForms known() {
        RingForms forms = new RingForms();
        for (int shelf = 0; shelf < ROWS.length; shelf++) {
            Due.put(forms, shelf, ROWS[shelf]);
        }
        forms.measure(2, 1, 2, 3);
        return forms;
    }

    /** A new object with one row on shelf 0. */
    static RingForms with(int... row) {
        RingForms forms = new RingForms();
        if (Due.put(forms, 0, row) != row.length) {
            throw new IllegalStateException("the row was refused");
        }
        return forms;
    }

    /** The call is answered so, and nothing has changed behind it. */
    void keeps(String call, long want, Call asked) {
        RingForms forms = known();
        due.is(call, asked.of(forms), want);
        List<Long> after = seen(forms);
        due.holds(call + " changes nothing: before " + before + ", after " + after, after.equals(before));
    }

    /** What a new object with one row on shelf 0 answers. */
    void of(int[] row, String call, long want, Call asked) {
        due.is(call + " of " + Arrays.toString(row), asked.of(with(row)), want);
    }

    /** The first numbers that are not allowed on both sides, and the last of all. */
    static int[] beyond(int low, int high) {
        return new int[] {low - 1, high + 1, Integer.MIN_VALUE, Integer.MAX_VALUE};
    }

    /** The row with one number put in the place of another. */
    static int[] changed(int[] row, int i, int number) {
        int[] changed = row.clone();
        changed[i] = number;
        return changed;
    }

    void end() {
        due.end();
    }

    private static List<Long> seen(RingForms forms) {
        List<Long> seen = new ArrayList<>();
        for (int shelf = 0; shelf < 4; shelf++) {
            for (int i = 0; i <= 5; i++) {
                seen.add((long) forms.at(shelf, i));
            }
            seen.add((long) forms.count(shelf, 0));
            seen.add((long) forms.count(shelf, 1));
            seen.add(forms.whole(shelf, 0));
            seen.add((long) forms.bars(shelf));
            seen.add((long) forms.many(shelf));
        }
        seen.add(forms.least(0, 0, 1));
        seen.add(forms.trace());
        return seen;
    }
}
