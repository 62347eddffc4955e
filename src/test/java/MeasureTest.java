/** Promises 16 and 21: measure, trace. */
public final class MeasureTest {
    private static final Due DUE = new Due();

    public static void main(String[] args) {
        measures();
        traces();
        wrongInputs();
        DUE.end();
    }

    private static void is(RingForms forms, int kind, int x, int y, int z, int want) {
        DUE.is("measure(" + kind + ", " + x + ", " + y + ", " + z + ")", forms.measure(kind, x, y, z), want);
    }

    private static void measures() {
        for (int x = -30; x <= 30; x += 5) {
            for (int y = -30; y <= 30; y += 4) {
                RingForms forms = new RingForms();
                for (int z = -30; z <= 30; z += 3) {
                    int great = Math.max(Math.max(Math.abs(x), Math.abs(y)), Math.abs(z));
                    int wide = great + Math.abs(x) + Math.abs(y) + Math.abs(z);
                    int odd = wide + (x % 2 != 0 ? 7 : 0) + (y % 2 != 0 ? 7 : 0) + (z % 2 != 0 ? 7 : 0);
                    is(forms, 0, x, y, z, great);
                    is(forms, 1, x, y, z, wide);
                    is(forms, 2, x, y, z, odd);
                }
            }
        }
        RingForms forms = new RingForms();
        is(forms, 0, 0, 0, 0, 0);
        is(forms, 1, 0, 0, 0, 0);
        is(forms, 2, 0, 0, 0, 0);
        is(forms, 2, -29, -29, -29, 29 * 4 + 21);
    }

    private static void traces() {
        RingForms forms = new RingForms();
        long trace = 0;
        int[] kinds = {0, 0, 1, 2, 0, 1, 1, 2, 2, 2};
        int[] bodies = {1, 11, 111};
        for (int kind : kinds) {
            forms.measure(kind, 3, -4, 5);
            trace += bodies[kind];
            DUE.is("trace after measure " + kind, forms.trace(), trace);
        }
        forms.form(0, 3, 1, 1, -2, 0, 0);
        forms.least(0, 2, 3);
        forms.many(0);
        forms.line(0, 1, 1, 1, 2, 3, 5, 0);
        forms.worth(0, 1, 2, 3);
        DUE.is("trace after other calls", forms.trace(), trace);
        for (int call = 0; call < 400; call++) {
            forms.measure(2, call % 30, 0, 0);
        }
        DUE.is("trace after many calls", forms.trace(), trace + 400 * 111);
    }

    private static void wrongInputs() {
        RingForms forms = new RingForms();
        int bad = RingForms.BAD;
        int[] noKinds = {-1, 3, 4, Integer.MIN_VALUE, Integer.MAX_VALUE};
        for (int kind : noKinds) {
            is(forms, kind, 1, 2, 3, bad);
        }
        int[] noNumbers = {31, -31, Integer.MIN_VALUE, Integer.MAX_VALUE};
        for (int n : noNumbers) {
            for (int kind = 0; kind < 3; kind++) {
                is(forms, kind, n, 0, 0, bad);
                is(forms, kind, 0, n, 0, bad);
                is(forms, kind, 0, 0, n, bad);
            }
        }
        DUE.is("trace after refused calls", forms.trace(), 0);
    }
}
