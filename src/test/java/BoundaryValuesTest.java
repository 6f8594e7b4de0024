/** The first two paragraphs of "Terms": what a value is, rounding, as a real, beyond the kind. */
final class BoundaryValuesTest {
    private static final int MAX = Boundary.MAX;
    private static final int MIN = Boundary.MIN;
    private static final int ONE = Boundary.ONE;
    private static final int BAD = Boundary.BAD;
    private static final int RANGE = Boundary.RANGE;
    private static final int[] NO_KINDS = {MIN, -2, -1, 0, 3, 4, MAX};

    private static final Boundary edge = new Boundary("BoundaryValuesTest");

    public static void main(String[] args) {
        wholeNumbers();
        reals();
        roundedProducts();
        roundedQuotients();
        roundedSums();
        asARealOfTwo();
        asARealOfOne();
        kindAndNumber();
        beyondTheKind();
        edge.end();
    }

    private static void wholeNumbers() {
        edge.sentence("Terms, Promises 2, 3, 6", "A VALUE is a WHOLE number, -2^31 .. 2^31 - 1");
        for (int end : new int[] {MIN, MIN + 1, MAX - 1, MAX}) {
            edge.two(0, 1, end, 1, 0, 1, end);
            edge.two(0, 1, 0, 1, end, 1, end);
            edge.one(9, 1, end, 1, end);
            edge.compare(1, end, 1, end, 1);
        }
        edge.two(0, 1, MAX - 1, 1, 1, 1, MAX);
        edge.twoRefused(0, 1, MAX, 1, 1, RANGE);
        edge.two(1, 1, MIN + 1, 1, 1, 1, MIN);
        edge.twoRefused(1, 1, MIN, 1, 1, RANGE);
    }

    /** -2^31 as units is no real, neither given nor as what comes out. */
    private static void reals() {
        edge.sentence("Terms, Promises 2, 3, 6", "or a REAL, n / 65536, where n, its UNITS, is whole,"
            + " -(2^31 - 1) .. 2^31 - 1.");
        for (int end : new int[] {-MAX, -MAX + 1, MAX - 1, MAX}) {
            edge.two(0, 2, end, 2, 0, 2, end);
            edge.two(0, 1, 0, 2, end, 2, end);
            edge.one(10, 2, end, 2, end);
            edge.compare(2, end, 2, end, 1);
        }
        edge.two(0, 2, MAX - 1, 2, 1, 2, MAX);
        edge.twoRefused(0, 2, MAX, 2, 1, RANGE);
        edge.two(1, 2, -MAX + 1, 2, 1, 2, -MAX);
        edge.twoRefused(1, 2, -MAX, 2, 1, RANGE);
        for (int what = 0; what <= 10; what++) {
            edge.twoRefused(what, 2, MIN, 2, 1, BAD);
            edge.twoRefused(what, 2, 1, 2, MIN, BAD);
        }
        for (int what = 0; what <= 11; what++) {
            edge.oneRefused(what, 2, MIN, BAD);
        }
        edge.compare(2, MIN, 2, -MAX, BAD);
        edge.compare(2, -MAX, 2, MIN, BAD);
    }

    private static final String ROUNDED =
        "ROUNDED is the greatest whole number that is not above x + 1/2; a real is rounded by its units.";

    private static void roundedProducts() {
        edge.sentence("Terms, Promise 2, MULTIPLY", ROUNDED);
        edge.two(2, 2, 1, 2, 32767, 2, 0);
        edge.two(2, 2, 1, 2, 32768, 2, 1);
        edge.two(2, 2, 1, 2, 32769, 2, 1);
        edge.two(2, 2, -1, 2, 32767, 2, 0);
        edge.two(2, 2, -1, 2, 32768, 2, 0);
        edge.two(2, 2, -1, 2, 32769, 2, -1);
        edge.two(2, 2, 3, 2, 32767, 2, 1);
        edge.two(2, 2, 3, 2, 32768, 2, 2);
        edge.two(2, 2, 3, 2, -32768, 2, -1);
        edge.two(2, 2, -3, 2, 32769, 2, -2);
        edge.two(2, 2, -1, 2, -32768, 2, 1);
        // 65537 times 2147450880 is the greatest real and a half, in units; the others lie just below and just beyond.
        edge.two(2, 2, 88513, 2, 1590020543, 2, MAX);
        edge.twoRefused(2, 2, 65537, 2, 2147450880, RANGE);
        edge.two(2, 2, -65537, 2, 2147450880, 2, -MAX);
        edge.twoRefused(2, 2, -120153, 2, 1171318971, RANGE);
    }

    private static void roundedQuotients() {
        edge.sentence("Terms, Promise 2, DIVIDE", ROUNDED);
        edge.two(3, 2, 1, 2, 131071, 2, 1);
        edge.two(3, 2, 1, 2, 131072, 2, 1);
        edge.two(3, 2, 1, 2, 131073, 2, 0);
        edge.two(3, 2, -1, 2, 131071, 2, -1);
        edge.two(3, 2, -1, 2, 131072, 2, 0);
        edge.two(3, 2, -1, 2, 131073, 2, 0);
        edge.two(3, 2, 1, 2, -131071, 2, -1);
        edge.two(3, 2, 1, 2, -131072, 2, 0);
        edge.two(3, 2, -1, 2, -131072, 2, 1);
        edge.two(3, 2, 3, 2, 131072, 2, 2);
        edge.two(3, 2, -3, 2, 131072, 2, -1);
        edge.two(3, 2, 3, 2, -131072, 2, -1);
        edge.two(3, 2, -3, 2, -131072, 2, 2);
    }

    private static void roundedSums() {
        edge.sentence("Terms, Promise 11", ROUNDED);
        int[] halves = Boundary.six(32767, 32768, 0, 0, 0, 0);
        edge.move(halves, 1, 0, true, 0, 1);
        edge.move(halves, -1, 0, true, 0, 0);
        edge.move(halves, 3, 0, true, 1, 2);
        edge.move(halves, -3, 0, true, -1, -1);
        int[] more = Boundary.six(32769, -32768, 0, 0, 0, 0);
        edge.move(more, 1, 0, true, 1, 0);
        edge.move(more, -1, 0, true, -1, 1);
    }

    private static final String AS_A_REAL = "AS A REAL a whole number is that with 65536 times its units:"
        + " refused (RANGE) unless it is -32767 .. 32767.";

    /** A whole number is seen as a real beside a real, and always by DIVIDE and ANGLE. */
    private static void asARealOfTwo() {
        edge.sentence("Terms, Promise 2", AS_A_REAL);
        edge.two(0, 1, 32767, 2, 0, 2, 32767 * ONE);
        edge.two(0, 2, 0, 1, -32767, 2, -32767 * ONE);
        edge.two(1, 1, -32767, 2, 0, 2, -32767 * ONE);
        edge.two(1, 2, 0, 1, -32767, 2, 32767 * ONE);
        edge.two(2, 1, 32767, 2, ONE, 2, 32767 * ONE);
        edge.two(2, 2, ONE, 1, -32767, 2, -32767 * ONE);
        edge.two(3, 1, 32767, 1, 1, 2, 32767 * ONE);
        edge.two(3, 1, -32767, 1, -32767, 2, ONE);
        edge.two(6, 1, 32767, 1, 32767, 2, 45 * ONE);
        edge.two(6, 1, -32767, 1, -32767, 2, 225 * ONE);
        for (int beyond : new int[] {MIN, -40000, -32768, 32768, 40000, MAX}) {
            for (int what = 0; what <= 2; what++) {
                edge.twoRefused(what, 1, beyond, 2, 0, RANGE);
                edge.twoRefused(what, 2, 0, 1, beyond, RANGE);
            }
            for (int what = 3; what <= 6; what += 3) {
                edge.twoRefused(what, 1, beyond, 2, ONE, RANGE);
                edge.twoRefused(what, 2, ONE, 1, beyond, RANGE);
                edge.twoRefused(what, 1, beyond, 1, 1, RANGE);
                edge.twoRefused(what, 1, 1, 1, beyond, RANGE);
            }
        }
    }

    private static void asARealOfOne() {
        edge.sentence("Terms, Promise 3", AS_A_REAL);
        edge.one(6, 1, 32767, 2, 11863102);
        edge.one(7, 1, 32767, 2, 7987);
        edge.one(7, 1, -32767, 2, -7987);
        edge.one(8, 1, 32767, 2, 65048);
        edge.one(8, 1, -32767, 2, 65048);
        edge.one(10, 1, 32767, 2, 32767 * ONE);
        edge.one(10, 1, -32767, 2, -32767 * ONE);
        for (int beyond : new int[] {MIN, -40000, -32768, 32768, 40000, MAX}) {
            edge.oneRefused(6, 1, beyond, RANGE);
            edge.oneRefused(7, 1, beyond, RANGE);
            edge.oneRefused(8, 1, beyond, RANGE);
            edge.oneRefused(10, 1, beyond, RANGE);
        }
        // What isn't looked at as a real isn't refused.
        for (int beyond : new int[] {-32768, 32768}) {
            for (int what = 2; what <= 5; what++) {
                edge.one(what, 1, beyond, 1, beyond);
            }
            edge.one(0, 1, beyond, 1, -beyond);
            edge.one(1, 1, beyond, 1, 32768);
            edge.one(9, 1, beyond, 1, beyond);
        }
    }

    private static void kindAndNumber() {
        edge.sentence("Terms, Promises 2, 3, 6",
            "A value is given as kind (1 whole, 2 real) and number (the whole number, or the units).");
        edge.one(9, 1, ONE, 1, ONE);
        edge.one(9, 2, ONE, 1, 1);
        edge.two(0, 1, 1, 1, 1, 1, 2);
        edge.two(0, 1, 1, 2, 1, 2, ONE + 1);
        for (int kind : NO_KINDS) {
            for (int what = 0; what <= 10; what++) {
                edge.twoRefused(what, kind, 1, 1, 1, BAD);
                edge.twoRefused(what, 1, 1, kind, 1, BAD);
            }
            for (int what = 0; what <= 11; what++) {
                edge.oneRefused(what, kind, 1, BAD);
            }
            edge.compare(kind, 1, 1, 1, BAD);
            edge.compare(1, 1, kind, 1, BAD);
        }
    }

    /** The kind of what comes out: a whole one has other ends than a real. */
    private static void beyondTheKind() {
        edge.sentence("Terms, Promises 2 to 5",
            "Answers come to THE RESULT in the same way. What would be beyond the kind is RANGE.");
        edge.two(2, 1, ONE, 1, -32768, 1, MIN);
        edge.twoRefused(2, 2, 256 * ONE, 2, -128 * ONE, RANGE);
        edge.two(2, 2, 256 * ONE, 2, -128 * ONE + 1, 2, -MAX + 255);
        edge.one(11, 1, MAX, 1, MIN);
        edge.oneRefused(0, 1, MIN, RANGE);
        edge.one(0, 2, -MAX, 2, MAX);
        edge.two(1, 1, -1, 1, MIN, 1, MAX);
        edge.twoRefused(1, 1, 0, 1, MIN, RANGE);
        edge.twoRefused(4, 1, MIN, 1, -1, RANGE);
        edge.two(4, 1, MIN, 1, 1, 1, MIN);
        edge.two(4, 1, -MAX, 1, -1, 1, MAX);
    }
}
