import java.util.Arrays;

/** Counts answers that are not as due; every test of the project ends with end(). */
final class Due {
    private static final int MOST_PRINTED = 40;

    private int asked = 0;
    private int wrong = 0;

    void is(String call, long got, long want) {
        asked++;
        if (got != want) {
            wrong++;
            if (wrong <= MOST_PRINTED) {
                System.out.println(call + " answered " + got + ", due is " + want);
            }
        }
    }

    void holds(String what, boolean fact) {
        is(what, fact ? 1 : 0, 1);
    }

    /** Puts a row of coefficients on a shelf; what is beyond it is 0. */
    static int put(RingForms forms, int shelf, int... row) {
        int[] five = Arrays.copyOf(row, 5);
        return forms.form(shelf, row.length, five[0], five[1], five[2], five[3], five[4]);
    }

    void end() {
        System.out.println(asked + " answers looked at, " + wrong + " not as due");
        if (wrong != 0 || asked == 0) {
            System.exit(1);
        }
    }
}
