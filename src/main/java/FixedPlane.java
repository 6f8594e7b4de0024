/**
 * Whole numbers and reals of sixteen binary places, and matrices that move points of a plane.
 * A real is held by its units, the 65536th parts of one.
 */
public final class FixedPlane {
    public static final int BAD = -1;
    public static final int RANGE = -2;
    public static final int UNDEFINED = -3;
    public static final int TYPE = -4;

    private static final int DONE = 1;

    // What compare() answers.
    private static final int BELOW = 0;
    private static final int SAME = 1;
    private static final int ABOVE = 2;

    private static final int WHOLE = 1;
    private static final int REAL = 2;

    // The operations of two().
    private static final int ADD = 0;
    private static final int SUBTRACT = 1;
    private static final int MULTIPLY = 2;
    private static final int DIVIDE = 3;
    private static final int QUOTIENT = 4;
    private static final int REMAINDER = 5;
    private static final int ANGLE = 6;
    private static final int AND = 7;
    private static final int OR = 8;
    private static final int XOR = 9;
    private static final int SHIFT = 10;

    // The operations of one().
    private static final int NEGATE = 0;
    private static final int SIZE = 1;
    private static final int CEILING = 2;
    private static final int FLOOR = 3;
    private static final int ROUND = 4;
    private static final int TRUNCATE = 5;
    private static final int ROOT = 6;
    private static final int SINE = 7;
    private static final int COSINE = 8;
    private static final int TO_WHOLE = 9;
    private static final int TO_REAL = 10;
    private static final int NOT = 11;

    private static final int PLACES = 16;
    private static final int ONE = 1 << PLACES;
    private static final int HALF = ONE / 2;
    private static final long GREATEST_REAL = Integer.MAX_VALUE;
    private static final long BEYOND_REALS = GREATEST_REAL + 1;
    private static final long FIRST_WHOLE_BEYOND_REALS = BEYOND_REALS / ONE;

    private static final int BITS_OF_A_WHOLE = 32;
    private static final int HIGHEST_BIT_OF_A_ROOT = 23;
    private static final int HIGHEST_BIT_OF_A_QUARTER = 22;

    private static final long QUARTER_TURN = 90L * ONE;
    private static final long HALF_TURN = 180L * ONE;
    private static final long FULL_TURN = 360L * ONE;

    /** The sines of 0 .. 90 whole degrees, in units. */
    private static final int[] SINES = {
        0, 1144, 2287, 3430, 4572, 5712, 6850, 7987, 9121, 10252,
        11380, 12505, 13626, 14742, 15855, 16962, 18064, 19161, 20252, 21336,
        22415, 23486, 24550, 25607, 26656, 27697, 28729, 29753, 30767, 31772,
        32768, 33754, 34729, 35693, 36647, 37590, 38521, 39441, 40348, 41243,
        42126, 42995, 43852, 44695, 45525, 46341, 47143, 47930, 48703, 49461,
        50203, 50931, 51643, 52339, 53020, 53684, 54332, 54963, 55578, 56175,
        56756, 57319, 57865, 58393, 58903, 59396, 59870, 60326, 60764, 61183,
        61584, 61966, 62328, 62672, 62997, 63303, 63589, 63856, 64104, 64332,
        64540, 64729, 64898, 65048, 65177, 65287, 65376, 65446, 65496, 65526,
        65536
    };

    private int resultKind;
    private int resultNumber;

    // THE MATRIX, which moves (x, y) to (x a + y c + e, x b + y d + f).
    private int matrixA;
    private int matrixB;
    private int matrixC;
    private int matrixD;
    private int matrixE;
    private int matrixF;

    private int movedX;
    private int movedY;

    public FixedPlane() {
        resultKind = WHOLE;
        matrixA = ONE;
        matrixD = ONE;
    }

    public int two(int what, int kindA, int a, int kindB, int b) {
        if (what < ADD || what > SHIFT || !isValue(kindA, a) || !isValue(kindB, b)) {
            return BAD;
        }
        boolean wholes = kindA == WHOLE && kindB == WHOLE;
        if (!wholes && isForWholesAlone(what)) {
            return TYPE;
        }
        if (wholes && what != DIVIDE && what != ANGLE) {
            return ofWholes(what, a, b);
        }
        long unitsA = units(kindA, a);
        long unitsB = units(kindB, b);
        if (!isReal(unitsA) || !isReal(unitsB)) {
            return RANGE;
        }
        return ofReals(what, unitsA, unitsB);
    }

    public int one(int what, int kind, int a) {
        if (what < NEGATE || what > NOT || !isValue(kind, a)) {
            return BAD;
        }
        if (what == NOT) {
            return kind == WHOLE ? keep(WHOLE, ~a) : TYPE;
        }
        if (!isAsAReal(what)) {
            return ofOne(what, kind, a);
        }
        long units = units(kind, a);
        return isReal(units) ? ofReal(what, units) : RANGE;
    }

    public int kind() {
        return resultKind;
    }

    public int number() {
        return resultNumber;
    }

    public int compare(int kindA, int a, int kindB, int b) {
        if (!isValue(kindA, a) || !isValue(kindB, b)) {
            return BAD;
        }
        long unitsA = units(kindA, a);
        long unitsB = units(kindB, b);
        if (unitsA == unitsB) {
            return SAME;
        }
        return unitsA < unitsB ? BELOW : ABOVE;
    }

    public boolean matrix(int a, int b, int c, int d, int e, int f) {
        return keepMatrix(a, b, c, d, e, f);
    }

    public int entry(int k) {
        switch (k) {
            case 0:
                return matrixA;
            case 1:
                return matrixB;
            case 2:
                return matrixC;
            case 3:
                return matrixD;
            case 4:
                return matrixE;
            case 5:
                return matrixF;
            default:
                return 0;
        }
    }

    public int before(int a, int b, int c, int d, int e, int f) {
        if (!areReals(a, b, c, d, e, f)) {
            return BAD;
        }
        boolean kept = keepMatrix(
            turnedX(a, b), turnedY(a, b),
            turnedX(c, d), turnedY(c, d),
            turnedX(e, f) + matrixE, turnedY(e, f) + matrixF);
        return kept ? DONE : RANGE;
    }

    public int invert() {
        long determinant = cross(matrixA, matrixD, matrixB, matrixC);
        if (determinant == 0) {
            return UNDEFINED;
        }
        // D counts in units of units: an entry does too when it is taken ONE times.
        boolean kept = keepMatrix(
            quotient((long) matrixD * ONE, determinant),
            quotient(-(long) matrixB * ONE, determinant),
            quotient(-(long) matrixC * ONE, determinant),
            quotient((long) matrixA * ONE, determinant),
            quotient(cross(matrixC, matrixF, matrixD, matrixE), determinant),
            quotient(cross(matrixB, matrixE, matrixA, matrixF), determinant));
        return kept ? DONE : RANGE;
    }

    public int move(int x, int y, boolean far) {
        if (!isReal(x) || !isReal(y)) {
            return BAD;
        }
        long toX = turnedX(x, y) + (far ? matrixE : 0);
        long toY = turnedY(x, y) + (far ? matrixF : 0);
        if (!isReal(toX) || !isReal(toY)) {
            return RANGE;
        }
        movedX = (int) toX;
        movedY = (int) toY;
        return DONE;
    }

    public int moved(int what) {
        if (what == 0) {
            return movedX;
        }
        return what == 1 ? movedY : 0;
    }

    private static boolean isValue(int kind, int number) {
        return kind == WHOLE || kind == REAL && isReal(number);
    }

    private static boolean isReal(long units) {
        return units >= -GREATEST_REAL && units <= GREATEST_REAL;
    }

    private static boolean areReals(long a, long b, long c, long d, long e, long f) {
        return isReal(a) && isReal(b) && isReal(c) && isReal(d) && isReal(e) && isReal(f);
    }

    private static long units(int kind, int number) {
        return kind == WHOLE ? (long) number * ONE : number;
    }

    private static boolean isForWholesAlone(int what) {
        return what == QUOTIENT || what == REMAINDER || what >= AND;
    }

    private static boolean isAsAReal(int what) {
        return what == ROOT || what == SINE || what == COSINE || what == TO_REAL;
    }

    private int ofWholes(int what, int a, int b) {
        switch (what) {
            case ADD:
                return keep(WHOLE, (long) a + b);
            case SUBTRACT:
                return keep(WHOLE, (long) a - b);
            case MULTIPLY:
                return keep(WHOLE, (long) a * b);
            case QUOTIENT:
                return b == 0 ? UNDEFINED : keep(WHOLE, (long) a / b);
            case REMAINDER:
                return b == 0 ? UNDEFINED : keep(WHOLE, (long) a % b);
            case AND:
                return keep(WHOLE, a & b);
            case OR:
                return keep(WHOLE, a | b);
            case XOR:
                return keep(WHOLE, a ^ b);
            default:
                return keep(WHOLE, shifted(a, b));
        }
    }

    private int ofReals(int what, long a, long b) {
        switch (what) {
            case ADD:
                return keep(REAL, a + b);
            case SUBTRACT:
                return keep(REAL, a - b);
            case MULTIPLY:
                return keep(REAL, withoutPlaces(a * b));
            case DIVIDE:
                return b == 0 ? UNDEFINED : keep(REAL, quotient(a, b));
            default:
                return a == 0 && b == 0 ? UNDEFINED : keep(REAL, angle(b, a));
        }
    }

    private int ofOne(int what, int kind, int a) {
        switch (what) {
            case NEGATE:
                return keep(kind, -(long) a);
            case SIZE:
                return keep(kind, Math.abs((long) a));
            case TO_WHOLE:
                return keep(WHOLE, kind == WHOLE ? a : a / ONE);
            default:
                return keep(kind, kind == WHOLE ? a : cut(what, a));
        }
    }

    private int ofReal(int what, long units) {
        switch (what) {
            case ROOT:
                return units < 0 ? UNDEFINED : keep(REAL, root(units));
            case SINE:
                return keep(REAL, sine(units));
            case COSINE:
                return keep(REAL, sine(units + QUARTER_TURN));
            default:
                return keep(REAL, units);
        }
    }

    private int keep(int kind, long number) {
        boolean fits = kind == WHOLE ? number == (int) number : isReal(number);
        if (!fits) {
            return RANGE;
        }
        resultKind = kind;
        resultNumber = (int) number;
        return kind;
    }

    private boolean keepMatrix(long a, long b, long c, long d, long e, long f) {
        if (!areReals(a, b, c, d, e, f)) {
            return false;
        }
        matrixA = (int) a;
        matrixB = (int) b;
        matrixC = (int) c;
        matrixD = (int) d;
        matrixE = (int) e;
        matrixF = (int) f;
        return true;
    }

    // Java's shifts look at five bits of the count alone, so 32 places and more are told apart first.
    private static int shifted(int a, int places) {
        if (places <= -BITS_OF_A_WHOLE || places >= BITS_OF_A_WHOLE) {
            return 0;
        }
        return places >= 0 ? a << places : a >>> -places;
    }

    /** The units of a real that is cut to a whole one by CEILING, FLOOR, ROUND or TRUNCATE. */
    private static long cut(int what, long units) {
        switch (what) {
            case CEILING:
                return floor(units + (ONE - 1));
            case FLOOR:
                return floor(units);
            case ROUND:
                return floor(units + HALF);
            default:
                return units / ONE * ONE;
        }
    }

    private static long floor(long units) {
        return units >> PLACES << PLACES;
    }

    /** Units of units, rounded to units. */
    private static long withoutPlaces(long product) {
        return (product + HALF) >> PLACES;
    }

    /** The units of dividend / divisor, rounded; BEYOND_REALS when it is far from every real. */
    private static long quotient(long dividend, long divisor) {
        long size = Math.abs(divisor);
        long parted = divisor < 0 ? -dividend : dividend;
        long rounded = Math.floorDiv(parted, size);
        if (rounded < -FIRST_WHOLE_BEYOND_REALS || rounded >= FIRST_WHOLE_BEYOND_REALS) {
            return BEYOND_REALS;
        }
        long left = Math.floorMod(parted, size);
        for (int place = 0; place < PLACES; place++) {
            // What is left, doubled, may pass 63 bits: it is compared with what it lacks.
            long lacking = size - left;
            boolean bit = left >= lacking;
            rounded = 2 * rounded + (bit ? 1 : 0);
            left = bit ? left - lacking : left + left;
        }
        return left >= size - left ? rounded + 1 : rounded;
    }

    private static long root(long units) {
        long square = units * ONE;
        long root = 0;
        for (int bit = HIGHEST_BIT_OF_A_ROOT; bit >= 0; bit--) {
            long greater = root + (1L << bit);
            if (greater * greater <= square) {
                root = greater;
            }
        }
        return root;
    }

    private static long sine(long angle) {
        long turned = Math.floorMod(angle, FULL_TURN);
        long upper = turned < HALF_TURN ? turned : turned - HALF_TURN;
        long size = sineOfFirstQuarter(Math.min(upper, HALF_TURN - upper));
        return turned < HALF_TURN ? size : -size;
    }

    private static long sineOfFirstQuarter(long angle) {
        if (angle <= 0) {
            return 0;
        }
        if (angle >= QUARTER_TURN) {
            return ONE;
        }
        int degree = (int) (angle >> PLACES);
        long behind = angle - (long) degree * ONE;
        return SINES[degree] + withoutPlaces((SINES[degree + 1] - SINES[degree]) * behind);
    }

    /** The angle of a point other than (0, 0). */
    private static long angle(long x, long y) {
        long first = angleOfFirstQuarter(Math.abs(x), Math.abs(y));
        long upper = x < 0 ? HALF_TURN - first : first;
        return y < 0 && upper != 0 ? FULL_TURN - upper : upper;
    }

    private static long angleOfFirstQuarter(long x, long y) {
        if (y == 0) {
            return 0;
        }
        if (x == 0) {
            return QUARTER_TURN;
        }
        // The least angle that is not below stands one unit behind the greatest that is below.
        long least = greatestAngle(x, y, -1) + 1;
        long greatest = greatestAngle(x, y, 0);
        return (least + greatest) / 2;
    }

    /** The greatest angle of 0 .. 90 degrees with x sin - y cos not above most: that never falls as angles grow. */
    private static long greatestAngle(long x, long y, long most) {
        long angle = 0;
        for (int bit = HIGHEST_BIT_OF_A_QUARTER; bit >= 0; bit--) {
            long greater = Math.min(angle + (1L << bit), QUARTER_TURN);
            long sine = sineOfFirstQuarter(greater);
            long cosine = sineOfFirstQuarter(QUARTER_TURN - greater);
            if (x * sine - y * cosine <= most) {
                angle = greater;
            }
        }
        return angle;
    }

    /** p q - r s: two products of reals' units stay below 2^63 together. */
    private static long cross(int p, int q, int r, int s) {
        return (long) p * q - (long) r * s;
    }

    // e and f are whole numbers of units, so adding them behind the rounding changes nothing.
    private long turnedX(int x, int y) {
        return withoutPlaces((long) x * matrixA + (long) y * matrixC);
    }

    private long turnedY(int x, int y) {
        return withoutPlaces((long) x * matrixB + (long) y * matrixD);
    }
}
