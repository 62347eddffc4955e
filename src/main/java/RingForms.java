/** Forms that fractions make nought; ../shared/DOC.md says what each call answers. */
public final class RingForms {
    public static final int BAD = -3, STATE = -4, FULL = -5, NONE = -9;
    public static final long NO = -1000000000000000L;

    private static final int SHELVES = 4;
    private static final int MOST_COEFFICIENTS = 5;
    private static final int COEFFICIENT_LIMIT = 400;
    private static final int NUMBER_LIMIT = 1000000;
    private static final int WORTH_LIMIT = 1000;
    private static final int SOLUTION_LIMIT = 30;
    private static final int KINDS = 3;

    // What one measure() brings: its own body's number and those of the bodies over it.
    private static final int[] TRACES = {1, 11, 111};

    private final Form[] shelves;
    // Made once and used again, so that no call makes an object.
    private final Form extended;
    private final int[] given;
    private final Search search;
    private long traced;

    public RingForms() {
        shelves = new Form[SHELVES];
        for (int i = 0; i < SHELVES; i++) {
            shelves[i] = new Form();
        }
        extended = new Form();
        given = new int[MOST_COEFFICIENTS];
        search = new Search();
        traced = 0;
    }

    // ---- numbers, signs

    public int free(int a) {
        if (!isNumber(a, NUMBER_LIMIT)) {
            return 0;
        }
        // What the greatest square divisor leaves has no multiple primes.
        for (int d = 1000; d > 1; d--) {
            if (a % (d * d) == 0) {
                return a / (d * d);
            }
        }
        return a;
    }

    public int sign(int a, int b, int place) {
        if (!isNumber(a, NUMBER_LIMIT) || !isNumber(b, NUMBER_LIMIT) || !Places.isPlace(place)) {
            return BAD;
        }
        return Places.signAt(a, b, place);
    }

    public int odds(int a, int b) {
        if (!isNumber(a, COEFFICIENT_LIMIT) || !isNumber(b, COEFFICIENT_LIMIT)) {
            return BAD;
        }
        int odd = 0;
        for (int place : Places.ALL) {
            if (Places.signAt(a, b, place) < 0) {
                odd++;
            }
        }
        return odd;
    }

    // ---- forms

    public int form(int shelf, int n, int a, int b, int c, int d, int e) {
        if (!isShelf(shelf) || n < 1 || n > MOST_COEFFICIENTS) {
            return BAD;
        }
        given[0] = a;
        given[1] = b;
        given[2] = c;
        given[3] = d;
        given[4] = e;
        for (int i = 0; i < n; i++) {
            if (!isNumber(given[i], COEFFICIENT_LIMIT)) {
                return BAD;
            }
        }
        shelves[shelf].take(given, n);
        return n;
    }

    public int at(int shelf, int i) {
        if (!isShelf(shelf) || i < 0 || i >= shelves[shelf].size) {
            return 0;
        }
        return shelves[shelf].coefficients[i];
    }

    public long whole(int shelf, int what) {
        if (!isShelf(shelf) || what < 0 || what > 1) {
            return 0;
        }
        return what == 0 ? shelves[shelf].product() : shelves[shelf].freeProduct();
    }

    public int hold(int shelf, int place) {
        if (!isShelf(shelf) || !Places.isPlace(place)) {
            return BAD;
        }
        return shelves[shelf].signsAt(place);
    }

    public int goes(int shelf, int place) {
        if (!isShelf(shelf) || !Places.isPlace(place)) {
            return BAD;
        }
        return shelves[shelf].goesAt(place) ? 1 : 0;
    }

    public int nought(int shelf) {
        if (!isShelf(shelf)) {
            return BAD;
        }
        return shelves[shelf].countBars() == 0 ? 1 : 0;
    }

    public int bars(int shelf) {
        if (!isShelf(shelf)) {
            return BAD;
        }
        return shelves[shelf].countBars();
    }

    public int bar(int shelf, int i) {
        if (!isShelf(shelf) || i < 0) {
            return BAD;
        }
        int place = shelves[shelf].findBar(i);
        return place < 0 ? BAD : place;
    }

    public int takes(int shelf, int t) {
        if (!isShelf(shelf) || !isNumber(t, COEFFICIENT_LIMIT)) {
            return BAD;
        }
        Form form = shelves[shelf];
        extended.take(form.coefficients, form.size);
        extended.append(-t);
        return extended.countBars() == 0 ? 1 : 0;
    }

    public int alike(int shelf, int other) {
        if (!isShelf(shelf) || !isShelf(other)) {
            return BAD;
        }
        return shelves[shelf].isAlike(shelves[other]) ? 1 : 0;
    }

    // ---- solutions

    public long worth(int shelf, int x, int y, int z) {
        if (!isShelf(shelf) || shelves[shelf].size != 3 || !areWithin(x, y, z, WORTH_LIMIT)) {
            return NO;
        }
        return shelves[shelf].pairing(x, y, z, x, y, z);
    }

    public int measure(int kind, int x, int y, int z) {
        if (kind < 0 || kind >= KINDS || !areWithin(x, y, z, SOLUTION_LIMIT)) {
            return BAD;
        }
        traced += TRACES[kind];
        return Measures.byKind(kind, x, y, z);
    }

    public long least(int shelf, int kind, int what) {
        if (!isShelf(shelf) || shelves[shelf].size != 3) {
            return NO;
        }
        if (kind < 0 || kind >= KINDS || what < 0 || what > 3) {
            return NO;
        }
        search.run(shelves[shelf], kind);
        if (search.found == 0) {
            return NO + 1;
        }
        if (what == 3) {
            return search.leastMeasure;
        }
        return pick(what, search.leastX, search.leastY, search.leastZ);
    }

    public int many(int shelf) {
        if (!isShelf(shelf) || shelves[shelf].size != 3) {
            return BAD;
        }
        search.run(shelves[shelf], Measures.GREAT);
        return search.found;
    }

    public long line(int shelf, int x, int y, int z, int u, int v, int w, int what) {
        if (!isShelf(shelf) || shelves[shelf].size != 3 || what < 0 || what > 2) {
            return NO;
        }
        Form form = shelves[shelf];
        if (!areWithin(x, y, z, SOLUTION_LIMIT) || !isReduced(x, y, z)
                || form.pairing(x, y, z, x, y, z) != 0) {
            return NO;
        }
        if (!areWithin(u, v, w, SOLUTION_LIMIT) || (u == 0 && v == 0 && w == 0)) {
            return NO;
        }
        long way = form.pairing(u, v, w, u, v, w);
        long twice = 2 * form.pairing(x, y, z, u, v, w);
        long first = way * x - twice * u;
        long second = way * y - twice * v;
        long third = way * z - twice * w;
        long divisor = reducer(first, second, third);
        if (divisor == 0) {
            return pick(what, x, y, z);
        }
        return pick(what, first, second, third) / divisor;
    }

    public int count(int shelf, int what) {
        if (!isShelf(shelf) || what < 0 || what > 1) {
            return BAD;
        }
        return what == 0 ? shelves[shelf].size : shelves[shelf].countAbove();
    }

    public long trace() {
        return traced;
    }

    private static boolean isShelf(int shelf) {
        return shelf >= 0 && shelf < SHELVES;
    }

    private static boolean isNumber(int a, int limit) {
        return a != 0 && isWithin(a, limit);
    }

    private static boolean isWithin(int a, int limit) {
        return a >= -limit && a <= limit;
    }

    private static boolean areWithin(int x, int y, int z, int limit) {
        return isWithin(x, limit) && isWithin(y, limit) && isWithin(z, limit);
    }

    private static long pick(int what, long x, long y, long z) {
        return what == 0 ? x : what == 1 ? y : z;
    }

    private static boolean isReduced(int x, int y, int z) {
        return reducer(x, y, z) == 1;
    }

    /** What divides three numbers to leave no common divisor and the first above 0; 0 if all are 0. */
    private static long reducer(long x, long y, long z) {
        long divisor = commonDivisor(x, commonDivisor(y, z));
        long first = x != 0 ? x : y != 0 ? y : z;
        return first < 0 ? -divisor : divisor;
    }

    private static long commonDivisor(long a, long b) {
        long high = Math.abs(a);
        long low = Math.abs(b);
        // Euclid's steps on longs are fewer than a hundred.
        for (int step = 0; step < 100 && low != 0; step++) {
            long rest = high % low;
            high = low;
            low = rest;
        }
        return high;
    }

    /** The line and the primes, and what numbers are there. */
    private static final class Places {
        static final int LINE = 0;

        static final int[] ALL = {
            0, 2, 3, 5, 7, 11, 13, 17, 19, 23, 29, 31, 37, 41, 43, 47, 53, 59, 61, 67,
            71, 73, 79, 83, 89, 97, 101, 103, 107, 109, 113, 127, 131, 137, 139, 149, 151, 157, 163, 167,
            173, 179, 181, 191, 193, 197, 199, 211, 223, 227, 229, 233, 239, 241, 251, 257, 263, 269, 271, 277,
            281, 283, 293, 307, 311, 313, 317, 331, 337, 347, 349, 353, 359, 367, 373, 379, 383, 389, 397
        };

        static boolean isPlace(int place) {
            for (int known : ALL) {
                if (known == place) {
                    return true;
                }
            }
            return false;
        }

        static int signAt(long a, long b, int place) {
            if (place == LINE) {
                return a < 0 && b < 0 ? -1 : 1;
            }
            boolean oddA = hasOddPower(a, place);
            boolean oddB = hasOddPower(b, place);
            long u = unit(a, place);
            long w = unit(b, place);
            boolean minus = place == 2 ? isThreeOfFour(u) && isThreeOfFour(w)
                    : oddA && oddB && isThreeOfFour(place);
            if (oddA && isTurning(w, place)) {
                minus = !minus;
            }
            if (oddB && isTurning(u, place)) {
                minus = !minus;
            }
            return minus ? -1 : 1;
        }

        static boolean isSquareAtPrime(long a, int prime) {
            if (hasOddPower(a, prime)) {
                return false;
            }
            long u = unit(a, prime);
            return prime == 2 ? (u & 7) == 1 : isResidue(u, prime);
        }

        private static boolean isThreeOfFour(long u) {
            return (u & 3) == 3;
        }

        /** Whether a unit turns the sign when the other number has an odd power of the prime. */
        private static boolean isTurning(long u, int prime) {
            if (prime == 2) {
                return (u & 7) == 3 || (u & 7) == 5;
            }
            return !isResidue(u, prime);
        }

        private static boolean hasOddPower(long a, int prime) {
            boolean odd = false;
            long rest = a;
            for (int step = 0; step < 64 && prime > 1 && rest != 0 && rest % prime == 0; step++) {
                rest /= prime;
                odd = !odd;
            }
            return odd;
        }

        private static long unit(long a, int prime) {
            long rest = a;
            for (int step = 0; step < 64 && prime > 1 && rest != 0 && rest % prime == 0; step++) {
                rest /= prime;
            }
            return rest;
        }

        /** By Euler: of the numbers that are no multiples just squares have 1 as their power (p - 1) / 2. */
        private static boolean isResidue(long u, int prime) {
            if (prime < 3) {
                return true;
            }
            // Not by Math.floorMod: of a long and an int it calls on, the ninth call deep from takes().
            int rest = (int) (u % prime);
            int base = rest < 0 ? rest + prime : rest;
            int power = 1;
            for (int exponent = (prime - 1) / 2; exponent > 0; exponent >>= 1) {
                if ((exponent & 1) == 1) {
                    power = power * base % prime;
                }
                base = base * base % prime;
            }
            return power == 1;
        }
    }

    /** Coefficients of squares; room for one more than a shelf's, for the number that a form takes. */
    private static final class Form {
        int size;
        final int[] coefficients;

        Form() {
            coefficients = new int[MOST_COEFFICIENTS + 1];
            coefficients[0] = 1;
            size = 1;
        }

        void take(int[] row, int n) {
            int taken = 0;
            for (int i = 0; i < n && i < row.length && i < coefficients.length; i++) {
                coefficients[i] = row[i];
                taken++;
            }
            size = taken;
        }

        void append(int coefficient) {
            if (size < coefficients.length) {
                coefficients[size] = coefficient;
                size++;
            }
        }

        long product() {
            long product = 1;
            for (int i = 0; i < size; i++) {
                product *= coefficients[i];
            }
            return product;
        }

        long freeProduct() {
            long rest = product();
            // No coefficient has a prime beyond the places.
            for (int place : Places.ALL) {
                int square = place * place;
                for (int step = 0; step < 64 && square > 1 && rest % square == 0; step++) {
                    rest /= square;
                }
            }
            return rest;
        }

        int countAbove() {
            int above = 0;
            for (int i = 0; i < size; i++) {
                if (coefficients[i] > 0) {
                    above++;
                }
            }
            return above;
        }

        int signsAt(int place) {
            int signs = 1;
            for (int i = 0; i < size; i++) {
                for (int k = i + 1; k < size; k++) {
                    signs *= Places.signAt(coefficients[i], coefficients[k], place);
                }
            }
            return signs;
        }

        boolean goesAt(int place) {
            if (place == Places.LINE) {
                int above = countAbove();
                return above > 0 && above < size;
            }
            switch (size) {
                case 1:
                    return false;
                case 2:
                    return Places.isSquareAtPrime(-product(), place);
                case 3:
                    return signsAt(place) == Places.signAt(-1, -product(), place);
                case 4:
                    return !Places.isSquareAtPrime(product(), place)
                            || signsAt(place) == Places.signAt(-1, -1, place);
                default:
                    return true;
            }
        }

        /**
         * None just if the form is nought for some fractions: of two coefficients, too, since - D above 0
         * with even powers of its primes alone is a square of a whole number.
         */
        int countBars() {
            int bars = 0;
            for (int place : Places.ALL) {
                if (mayBar(place) && !goesAt(place)) {
                    bars++;
                }
            }
            return bars;
        }

        /** The place of a bar by its number from 0, or -1. */
        int findBar(int wanted) {
            int passed = 0;
            for (int place : Places.ALL) {
                if (mayBar(place) && !goesAt(place)) {
                    if (passed == wanted) {
                        return place;
                    }
                    passed++;
                }
            }
            return -1;
        }

        private boolean mayBar(int place) {
            if (place == Places.LINE || place == 2) {
                return true;
            }
            for (int i = 0; i < size; i++) {
                if (coefficients[i] % place == 0) {
                    return true;
                }
            }
            return false;
        }

        boolean isAlike(Form other) {
            if (size != other.size || countAbove() != other.countAbove()
                    || freeProduct() != other.freeProduct()) {
                return false;
            }
            for (int place : Places.ALL) {
                if (place != Places.LINE && (mayBar(place) || other.mayBar(place))
                        && signsAt(place) != other.signsAt(place)) {
                    return false;
                }
            }
            return true;
        }

        /** Coefficient times number times number, added, of the first three; of a point with itself the form. */
        long pairing(int x, int y, int z, int u, int v, int w) {
            return (long) coefficients[0] * x * u + (long) coefficients[1] * y * v
                    + (long) coefficients[2] * z * w;
        }

        /** The z from 0 up that makes three terms 0 with x and y, or -1. */
        int thirdFor(int x, int y) {
            int third = coefficients[2];
            int rest = -(coefficients[0] * x * x + coefficients[1] * y * y);
            if (third == 0 || rest % third != 0) {
                return -1;
            }
            int square = rest / third;
            if (square < 0 || square > SOLUTION_LIMIT * SOLUTION_LIMIT) {
                return -1;
            }
            for (int z = 0; z <= SOLUTION_LIMIT; z++) {
                if (z * z == square) {
                    return z;
                }
            }
            return -1;
        }
    }

    /** The bodies of the measures, each asking the one that stands over it. */
    private static final class Measures {
        static final int GREAT = 0;
        static final int WIDE = 1;

        static int byKind(int kind, int x, int y, int z) {
            switch (kind) {
                case GREAT:
                    return great(x, y, z);
                case WIDE:
                    return wide(x, y, z);
                default:
                    return odd(x, y, z);
            }
        }

        private static int great(int x, int y, int z) {
            return Math.max(Math.abs(x), Math.max(Math.abs(y), Math.abs(z)));
        }

        private static int wide(int x, int y, int z) {
            return great(x, y, z) + Math.abs(x) + Math.abs(y) + Math.abs(z);
        }

        private static int odd(int x, int y, int z) {
            return wide(x, y, z) + 7 * ((x & 1) + (y & 1) + (z & 1));
        }
    }

    /** Goes through the solutions of three terms from below, so that the first of the least is kept. */
    private static final class Search {
        int found;
        int leastMeasure;
        int leastX;
        int leastY;
        int leastZ;

        void run(Form form, int kind) {
            found = 0;
            for (int x = 0; x <= SOLUTION_LIMIT; x++) {
                for (int y = -SOLUTION_LIMIT; y <= SOLUTION_LIMIT; y++) {
                    int z = form.thirdFor(x, y);
                    if (z > 0) {
                        meet(kind, x, y, -z);
                    }
                    if (z >= 0) {
                        meet(kind, x, y, z);
                    }
                }
            }
        }

        private void meet(int kind, int x, int y, int z) {
            if (!isReduced(x, y, z)) {
                return;
            }
            int measure = Measures.byKind(kind, x, y, z);
            if (found == 0 || measure < leastMeasure) {
                leastMeasure = measure;
                leastX = x;
                leastY = y;
                leastZ = z;
            }
            found++;
        }
    }
}
