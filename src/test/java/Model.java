import java.math.BigInteger;

/**
 * The document once more, in exact fractions and without regard to speed: what the program is
 * compared with. An answer here follows the document's words, not the program's shortcuts.
 */
final class Model {
    static final int QUARTER = 90 * 65536;
    private static final BigInteger ONE = BigInteger.valueOf(65536);
    private static final BigInteger LEAST_WHOLE = BigInteger.valueOf(-2147483648L);
    private static final BigInteger GREATEST = BigInteger.valueOf(2147483647L);

    static final int[] S = {
        0, 1144, 2287, 3430, 4572, 5712, 6850, 7987, 9121, 10252, 11380, 12505,
        13626, 14742, 15855, 16962, 18064, 19161, 20252, 21336, 22415, 23486, 24550, 25607,
        26656, 27697, 28729, 29753, 30767, 31772, 32768, 33754, 34729, 35693, 36647, 37590,
        38521, 39441, 40348, 41243, 42126, 42995, 43852, 44695, 45525, 46341, 47143, 47930,
        48703, 49461, 50203, 50931, 51643, 52339, 53020, 53684, 54332, 54963, 55578, 56175,
        56756, 57319, 57865, 58393, 58903, 59396, 59870, 60326, 60764, 61183, 61584, 61966,
        62328, 62672, 62997, 63303, 63589, 63856, 64104, 64332, 64540, 64729, 64898, 65048,
        65177, 65287, 65376, 65446, 65496, 65526, 65536
    };

    /** The sine and the cosine of every real of 0 .. 90 degrees, made when first asked for. */
    private static int[] sines;
    private static int[] cosines;

    int kind = 1;
    int number = 0;
    int[] matrix = {65536, 0, 0, 65536, 0, 0};
    int[] moved = {0, 0};

    int two(int what, int kindA, int a, int kindB, int b) {
        if (what < 0 || what > 10 || bad(kindA, a) || bad(kindB, b)) {
            return -1;
        }
        boolean wholes = kindA == 1 && kindB == 1;
        boolean wantsWholes = what == 4 || what == 5 || what >= 7;
        if (wantsWholes && !wholes) {
            return -4;
        }
        boolean asReals = what == 3 || what == 6 || !wholes;
        if (asReals && (outside(kindA, a) || outside(kindB, b))) {
            return -2;
        }
        BigInteger x = asReals ? units(kindA, a) : BigInteger.valueOf(a);
        BigInteger y = asReals ? units(kindB, b) : BigInteger.valueOf(b);
        if ((what == 3 || what == 4 || what == 5) && y.signum() == 0) {
            return -3;
        }
        if (what == 6 && x.signum() == 0 && y.signum() == 0) {
            return -3;
        }
        int to = asReals ? 2 : 1;
        switch (what) {
            case 0: return keep(to, x.add(y));
            case 1: return keep(to, x.subtract(y));
            case 2: return keep(to, asReals ? rounded(x.multiply(y), ONE) : x.multiply(y));
            case 3: return keep(to, rounded(x.multiply(ONE), y));
            case 4: return keep(to, x.divide(y));
            case 5: return keep(to, x.subtract(y.multiply(x.divide(y))));
            case 6: return keep(to, BigInteger.valueOf(angle(y.longValue(), x.longValue())));
            case 7: return keep(to, x.and(y));
            case 8: return keep(to, x.or(y));
            case 9: return keep(to, x.xor(y));
            default: return keep(to, shift(a, b));
        }
    }

    int one(int what, int kindA, int a) {
        if (what < 0 || what > 11 || bad(kindA, a)) {
            return -1;
        }
        if (what == 11 && kindA != 1) {
            return -4;
        }
        boolean asReal = what == 6 || what == 7 || what == 8 || what == 10;
        if (asReal && outside(kindA, a)) {
            return -2;
        }
        if (what == 6 && a < 0) {
            return -3;
        }
        BigInteger n = BigInteger.valueOf(a);
        BigInteger whole = kindA == 1 ? BigInteger.ONE : ONE;
        BigInteger u = units(kindA, a);
        switch (what) {
            case 0: return keep(kindA, n.negate());
            case 1: return keep(kindA, n.abs());
            case 2: return keep(kindA, floor(n.negate(), whole).negate().multiply(whole));
            case 3: return keep(kindA, floor(n, whole).multiply(whole));
            case 4: return keep(kindA, rounded(n, whole).multiply(whole));
            case 5: return keep(kindA, n.divide(whole).multiply(whole));
            case 6: return keep(2, u.multiply(ONE).sqrt());
            case 7: return keep(2, BigInteger.valueOf(sine(u.longValue())));
            case 8: return keep(2, BigInteger.valueOf(sine(u.longValue() + QUARTER)));
            case 9: return keep(1, n.divide(whole));
            case 10: return keep(2, u);
            default: return keep(1, n.not());
        }
    }

    int compare(int kindA, int a, int kindB, int b) {
        if (bad(kindA, a) || bad(kindB, b)) {
            return -1;
        }
        return units(kindA, a).compareTo(units(kindB, b)) + 1;
    }

    boolean matrix(int... entries) {
        for (int entry : entries) {
            if (bad(2, entry)) {
                return false;
            }
        }
        matrix = entries;
        return true;
    }

    int entry(int k) {
        return k >= 0 && k < 6 ? matrix[k] : 0;
    }

    int before(int... m) {
        for (int entry : m) {
            if (bad(2, entry)) {
                return -1;
            }
        }
        BigInteger[] made = {
            toX(m[0], m[1], false), toY(m[0], m[1], false),
            toX(m[2], m[3], false), toY(m[2], m[3], false),
            toX(m[4], m[5], true), toY(m[4], m[5], true)};
        return keepMatrix(made);
    }

    int invert() {
        BigInteger det = product(0, 3).subtract(product(1, 2));
        if (det.signum() == 0) {
            return -3;
        }
        BigInteger[] above = {
            entryOf(3).multiply(ONE), entryOf(1).negate().multiply(ONE),
            entryOf(2).negate().multiply(ONE), entryOf(0).multiply(ONE),
            product(2, 5).subtract(product(3, 4)), product(1, 4).subtract(product(0, 5))};
        BigInteger[] made = new BigInteger[6];
        for (int k = 0; k < 6; k++) {
            made[k] = rounded(above[k].multiply(ONE), det);
        }
        return keepMatrix(made);
    }

    int move(int x, int y, boolean far) {
        if (bad(2, x) || bad(2, y)) {
            return -1;
        }
        BigInteger toX = toX(x, y, far);
        BigInteger toY = toY(x, y, far);
        if (beyond(2, toX) || beyond(2, toY)) {
            return -2;
        }
        moved = new int[] {toX.intValue(), toY.intValue()};
        return 1;
    }

    int moved(int what) {
        return what == 0 || what == 1 ? moved[what] : 0;
    }

    /** As the document has it, in four quarters, each one from the one before. */
    static long sine(long units) {
        long angle = units;
        while (angle < 0) {
            angle += 4L * QUARTER;
        }
        while (angle >= 4L * QUARTER) {
            angle -= 4L * QUARTER;
        }
        if (angle >= 2L * QUARTER) {
            return -sine(angle - 2L * QUARTER);
        }
        if (angle > QUARTER) {
            return sine(2L * QUARTER - angle);
        }
        int d = (int) (angle / 65536);
        long f = angle % 65536;
        if (f == 0) {
            return S[d];
        }
        BigInteger step = BigInteger.valueOf((S[d + 1] - S[d]) * f);
        return S[d] + rounded(step, ONE).longValue();
    }

    static long angle(long x, long y) {
        long angle = firstAngle(Math.abs(x), Math.abs(y));
        if (x < 0) {
            angle = 2L * QUARTER - angle;
        }
        if (y < 0 && angle != 0) {
            angle = 4L * QUARTER - angle;
        }
        return angle;
    }

    private static long firstAngle(long x, long y) {
        if (y == 0) {
            return 0;
        }
        if (x == 0) {
            return QUARTER;
        }
        return Math.floorDiv(leastNotBelow(x, y) + greatestNotAbove(x, y), 2L);
    }

    /** By halves: ModelTest looks at every neighbouring pair, so the halves may be trusted. */
    private static long leastNotBelow(long x, long y) {
        int low = 0;
        int high = QUARTER;
        while (low < high) {
            int middle = (low + high) / 2;
            if (x * sineAt(middle) >= y * cosineAt(middle)) {
                high = middle;
            } else {
                low = middle + 1;
            }
        }
        return low;
    }

    private static long greatestNotAbove(long x, long y) {
        int low = 0;
        int high = QUARTER;
        while (low < high) {
            int middle = (low + high + 1) / 2;
            if (x * sineAt(middle) <= y * cosineAt(middle)) {
                low = middle;
            } else {
                high = middle - 1;
            }
        }
        return low;
    }

    static long sineAt(int angle) {
        makeTables();
        return sines[angle];
    }

    static long cosineAt(int angle) {
        makeTables();
        return cosines[angle];
    }

    private static void makeTables() {
        if (sines != null) {
            return;
        }
        sines = new int[QUARTER + 1];
        cosines = new int[QUARTER + 1];
        for (int angle = 0; angle <= QUARTER; angle++) {
            sines[angle] = (int) sine(angle);
            cosines[angle] = (int) sine((long) angle + QUARTER);
        }
    }

    private static BigInteger shift(int a, int places) {
        if (places >= 32 || places <= -32) {
            return BigInteger.ZERO;
        }
        BigInteger withoutSign = BigInteger.valueOf(a & 0xFFFFFFFFL);
        return BigInteger.valueOf(withoutSign.shiftLeft(places).intValue());
    }

    private static BigInteger floor(BigInteger above, BigInteger below) {
        BigInteger[] parts = above.divideAndRemainder(below);
        boolean less = parts[1].signum() != 0 && parts[1].signum() != below.signum();
        return less ? parts[0].subtract(BigInteger.ONE) : parts[0];
    }

    private static BigInteger rounded(BigInteger above, BigInteger below) {
        return floor(above.shiftLeft(1).add(below), below.shiftLeft(1));
    }

    private static BigInteger units(int kind, int number) {
        BigInteger n = BigInteger.valueOf(number);
        return kind == 1 ? n.multiply(ONE) : n;
    }

    private static boolean bad(int kind, int number) {
        return kind != 1 && kind != 2 || kind == 2 && number == Integer.MIN_VALUE;
    }

    private static boolean outside(int kind, int number) {
        return kind == 1 && (number < -32767 || number > 32767);
    }

    private static boolean beyond(int kind, BigInteger n) {
        BigInteger least = kind == 1 ? LEAST_WHOLE : GREATEST.negate();
        return n.compareTo(least) < 0 || n.compareTo(GREATEST) > 0;
    }

    private int keep(int to, BigInteger n) {
        if (beyond(to, n)) {
            return -2;
        }
        kind = to;
        number = n.intValueExact();
        return to;
    }

    private int keepMatrix(BigInteger[] made) {
        int[] kept = new int[6];
        for (int k = 0; k < 6; k++) {
            if (beyond(2, made[k])) {
                return -2;
            }
            kept[k] = made[k].intValueExact();
        }
        matrix = kept;
        return 1;
    }

    private BigInteger entryOf(int k) {
        return BigInteger.valueOf(matrix[k]);
    }

    private BigInteger product(int k, int l) {
        return entryOf(k).multiply(entryOf(l));
    }

    private BigInteger toX(int x, int y, boolean far) {
        return to(x, y, 0, far);
    }

    private BigInteger toY(int x, int y, boolean far) {
        return to(x, y, 1, far);
    }

    private BigInteger to(int x, int y, int side, boolean far) {
        BigInteger sum = BigInteger.valueOf(x).multiply(entryOf(side))
            .add(BigInteger.valueOf(y).multiply(entryOf(2 + side)));
        return rounded(far ? sum.add(entryOf(4 + side).multiply(ONE)) : sum, ONE);
    }
}
