/** Promise 2: the operations of two values, each at the ends that its words in "Terms" name. */
final class BoundaryTwoTest {
    private static final int MAX = Boundary.MAX;
    private static final int MIN = Boundary.MIN;
    private static final int ONE = Boundary.ONE;
    private static final int BAD = Boundary.BAD;
    private static final int RANGE = Boundary.RANGE;
    private static final int UNDEFINED = Boundary.UNDEFINED;
    private static final int TYPE = Boundary.TYPE;

    private static final Boundary edge = new Boundary("BoundaryTwoTest");

    public static void main(String[] args) {
        ofWholes();
        ofReals();
        divide();
        divideByNothing();
        quotientAndRemainder();
        quotientsOfReals();
        angle();
        bits();
        shift();
        bitsOfReals();
        noOperation();
        noKindOrNumber();
        edge.end();
    }

    private static void ofWholes() {
        edge.sentence("Terms, Promise 2", "ADD, SUBTRACT, MULTIPLY: of two whole numbers whole;");
        edge.two(0, 1, 32767, 1, 1, 1, 32768);
        edge.two(0, 1, MAX, 1, 0, 1, MAX);
        edge.two(0, 1, MAX, 1, MIN, 1, -1);
        edge.twoRefused(0, 1, 1, 1, MAX, RANGE);
        edge.twoRefused(0, 1, MAX, 1, MAX, RANGE);
        edge.two(0, 1, MIN, 1, 0, 1, MIN);
        edge.twoRefused(0, 1, MIN, 1, -1, RANGE);
        edge.twoRefused(0, 1, MIN, 1, MIN, RANGE);
        edge.two(1, 1, MAX, 1, 0, 1, MAX);
        edge.twoRefused(1, 1, MAX, 1, -1, RANGE);
        edge.two(1, 1, MIN, 1, MIN, 1, 0);
        edge.twoRefused(1, 1, MIN, 1, 1, RANGE);
        edge.twoRefused(1, 1, 0, 1, MIN, RANGE);
        edge.two(2, 1, 46340, 1, 46341, 1, 2147441940);
        edge.twoRefused(2, 1, 46341, 1, 46341, RANGE);
        edge.two(2, 1, MAX, 1, -1, 1, -MAX);
        edge.twoRefused(2, 1, MIN, 1, -1, RANGE);
        edge.two(2, 1, 1 << 16, 1, -(1 << 15), 1, MIN);
        edge.twoRefused(2, 1, 1 << 16, 1, 1 << 15, RANGE);
        edge.two(2, 1, 715827882, 1, 3, 1, MAX - 1);
        edge.twoRefused(2, 1, 715827883, 1, 3, RANGE);
        edge.twoRefused(2, 1, MIN, 1, MIN, RANGE);
    }

    /** A whole number beside a real is seen as a real. */
    private static void ofReals() {
        edge.sentence("Terms, Promise 2", "otherwise of both as reals, the product rounded.");
        edge.two(0, 1, 1, 2, 1, 2, ONE + 1);
        edge.two(0, 2, 1, 1, 1, 2, ONE + 1);
        edge.two(0, 1, 32767, 2, 65535, 2, MAX);
        edge.twoRefused(0, 1, 32767, 2, 65536, RANGE);
        edge.two(0, 1, -32767, 2, -65535, 2, -MAX);
        edge.twoRefused(0, 1, -32767, 2, -65536, RANGE);
        edge.two(0, 2, MAX, 2, -MAX, 2, 0);
        edge.twoRefused(0, 2, MAX, 2, MAX, RANGE);
        edge.two(1, 2, MAX, 2, MAX, 2, 0);
        edge.twoRefused(1, 2, MAX, 2, -1, RANGE);
        edge.two(1, 1, 32767, 2, -65535, 2, MAX);
        edge.twoRefused(1, 1, 32767, 2, -65536, RANGE);
        edge.two(1, 2, -65535, 1, 32767, 2, -MAX);
        edge.twoRefused(1, 2, -65536, 1, 32767, RANGE);
        edge.two(2, 2, MAX, 1, 1, 2, MAX);
        edge.two(2, 2, MAX, 1, -1, 2, -MAX);
        edge.twoRefused(2, 2, MAX, 1, 2, RANGE);
        edge.twoRefused(2, 2, MAX, 2, ONE + 1, RANGE);
        edge.two(2, 2, MAX, 2, ONE - 1, 2, MAX - 32768);
        edge.twoRefused(2, 2, MAX, 2, MAX, RANGE);
        edge.twoRefused(2, 2, -MAX, 2, MAX, RANGE);
        edge.two(2, 1, 32767, 2, 0, 2, 0);
        edge.two(2, 2, 1, 1, 32767, 2, 32767);
    }

    private static void divide() {
        edge.sentence("Terms, Promise 2", "DIVIDE: both as reals (A first): the quotient rounded;");
        edge.two(3, 1, 6, 1, 2, 2, 3 * ONE);
        edge.two(3, 2, MAX, 2, ONE, 2, MAX);
        edge.twoRefused(3, 2, MAX, 2, ONE - 1, RANGE);
        edge.two(3, 2, MAX, 2, ONE + 1, 2, 2147450880);
        edge.two(3, 2, -MAX, 2, ONE, 2, -MAX);
        edge.two(3, 2, MAX, 2, -ONE, 2, -MAX);
        edge.two(3, 2, -MAX, 2, -ONE, 2, MAX);
        edge.twoRefused(3, 2, -MAX, 2, ONE - 1, RANGE);
        edge.twoRefused(3, 2, MAX, 2, 1 - ONE, RANGE);
        edge.two(3, 2, 32767, 2, 1, 2, 32767 * ONE);
        edge.two(3, 2, 32767, 2, -1, 2, -32767 * ONE);
        // 2^31 units: one too many on both sides.
        edge.twoRefused(3, 2, 32768, 2, 1, RANGE);
        edge.twoRefused(3, 2, -32768, 2, 1, RANGE);
        edge.twoRefused(3, 2, MAX, 2, 1, RANGE);
        edge.twoRefused(3, 2, -MAX, 2, 1, RANGE);
        edge.two(3, 2, 1, 2, MAX, 2, 0);
        edge.two(3, 2, 16383, 2, MAX, 2, 0);
        edge.two(3, 2, 16384, 2, MAX, 2, 1);
        edge.two(3, 2, -16384, 2, MAX, 2, -1);
        edge.two(3, 2, MAX - 1, 2, MAX, 2, ONE);
    }

    private static void divideByNothing() {
        edge.sentence("Terms, Promise 2", "UNDEFINED when B is 0 (both ranges are looked at before).");
        edge.twoRefused(3, 1, 1, 1, 0, UNDEFINED);
        edge.twoRefused(3, 1, 1, 2, 0, UNDEFINED);
        edge.twoRefused(3, 2, 1, 1, 0, UNDEFINED);
        edge.twoRefused(3, 2, MAX, 2, 0, UNDEFINED);
        edge.twoRefused(3, 1, 0, 1, 0, UNDEFINED);
        edge.two(3, 1, 1, 2, 65535, 2, 65537);
        edge.two(3, 1, 0, 2, 1, 2, 0);
        edge.two(3, 1, 0, 2, -1, 2, 0);
        edge.twoRefused(3, 1, 32767, 1, 0, UNDEFINED);
        edge.twoRefused(3, 1, -32767, 1, 0, UNDEFINED);
        edge.twoRefused(3, 1, 32768, 1, 0, RANGE);
        edge.twoRefused(3, 1, -32768, 2, 0, RANGE);
        edge.twoRefused(3, 1, 32768, 1, 32768, RANGE);
    }

    private static void quotientAndRemainder() {
        edge.sentence("Terms, Promise 2", "towards 0, and what is left; UNDEFINED when B is 0.");
        int[][] rows = {
            {7, 2, 3, 1}, {-7, 2, -3, -1}, {7, -2, -3, 1}, {-7, -2, 3, -1},
            {1, 2, 0, 1}, {-1, 2, 0, -1}, {2, 2, 1, 0}, {-2, 2, -1, 0}, {0, 5, 0, 0}, {0, -5, 0, 0},
            {MAX, 1, MAX, 0}, {MAX, -1, -MAX, 0}, {MIN, 1, MIN, 0}, {MIN, MIN, 1, 0}, {MIN, MAX, -1, -1},
            {MAX, MIN, 0, MAX}, {MIN, 2, -1073741824, 0}, {MIN, -2, 1073741824, 0}, {MIN + 1, -1, MAX, 0}};
        for (int[] row : rows) {
            edge.two(4, 1, row[0], 1, row[1], 1, row[2]);
            edge.two(5, 1, row[0], 1, row[1], 1, row[3]);
        }
        edge.twoRefused(4, 1, MIN, 1, -1, RANGE);
        edge.two(5, 1, MIN, 1, -1, 1, 0);
        for (int a : new int[] {MIN, -1, 0, 1, MAX}) {
            edge.twoRefused(4, 1, a, 1, 0, UNDEFINED);
            edge.twoRefused(5, 1, a, 1, 0, UNDEFINED);
        }
    }

    private static void quotientsOfReals() {
        edge.sentence("Terms, Promise 2", "QUOTIENT, REMAINDER: two whole numbers (TYPE otherwise, A first)");
        for (int what = 4; what <= 5; what++) {
            edge.twoRefused(what, 2, 6, 1, 2, TYPE);
            edge.twoRefused(what, 1, 6, 2, 2, TYPE);
            edge.twoRefused(what, 2, 6, 2, 2, TYPE);
            edge.twoRefused(what, 2, 0, 1, 0, TYPE);
            edge.twoRefused(what, 1, 0, 2, 0, TYPE);
        }
    }

    private static void angle() {
        edge.sentence("Terms, Promise 2", "ANGLE: of the point (B, A), both as reals: UNDEFINED when both are 0.");
        for (int kindA = 1; kindA <= 2; kindA++) {
            for (int kindB = 1; kindB <= 2; kindB++) {
                edge.twoRefused(6, kindA, 0, kindB, 0, UNDEFINED);
                edge.two(6, kindA, 1, kindB, 0, 2, 90 * ONE);
                edge.two(6, kindA, -1, kindB, 0, 2, 270 * ONE);
                edge.two(6, kindA, 0, kindB, 1, 2, 0);
                edge.two(6, kindA, 0, kindB, -1, 2, 180 * ONE);
            }
        }
        edge.two(6, 2, ONE, 1, 1, 2, 45 * ONE);
        edge.two(6, 1, 1, 2, -ONE, 2, 135 * ONE);
        edge.two(6, 1, 2, 1, 1, 2, 4157280);
        edge.two(6, 1, 1, 1, 2, 2, 1740959);
    }

    private static void bits() {
        edge.sentence("Terms, Promise 2", "AND, OR, XOR, NOT (of A), SHIFT");
        edge.two(7, 1, 6, 1, 3, 1, 2);
        edge.two(7, 1, MIN, 1, MAX, 1, 0);
        edge.two(7, 1, -1, 1, MIN, 1, MIN);
        edge.two(8, 1, 6, 1, 3, 1, 7);
        edge.two(8, 1, MIN, 1, MAX, 1, -1);
        edge.two(8, 1, 0, 1, MIN, 1, MIN);
        edge.two(9, 1, 6, 1, 3, 1, 5);
        edge.two(9, 1, -1, 1, MIN, 1, MAX);
        edge.two(9, 1, MAX, 1, -1, 1, MIN);
    }

    /** What is pushed out above is lost; from 32 places on, up or down, nothing is left. */
    private static void shift() {
        edge.sentence("Terms, Promise 2",
            "SHIFT (A by B places up, by -B down without sign; 0 from 32 places on): whole numbers;");
        edge.two(10, 1, -1, 1, 0, 1, -1);
        edge.two(10, 1, 1, 1, 1, 1, 2);
        edge.two(10, 1, 3, 1, 30, 1, -1073741824);
        edge.two(10, 1, -1, 1, 31, 1, MIN);
        edge.two(10, 1, 2, 1, 31, 1, 0);
        edge.two(10, 1, -1, 1, -1, 1, MAX);
        edge.two(10, 1, MIN, 1, -30, 1, 2);
        edge.two(10, 1, -1, 1, -31, 1, 1);
        edge.two(10, 1, MAX, 1, -31, 1, 0);
        for (int places : new int[] {32, 33, 63, 64, 65, 1 << 16, MAX - 31, MAX}) {
            edge.two(10, 1, -1, 1, places, 1, 0);
            edge.two(10, 1, -1, 1, -places, 1, 0);
        }
        edge.two(10, 1, -1, 1, MIN, 1, 0);
        edge.two(10, 1, -1, 1, MIN + 1, 1, 0);
    }

    private static void bitsOfReals() {
        edge.sentence("Terms, Promise 2", "whole numbers; TYPE otherwise (A first).");
        for (int what = 7; what <= 10; what++) {
            edge.twoRefused(what, 2, ONE, 1, 1, TYPE);
            edge.twoRefused(what, 1, 1, 2, ONE, TYPE);
            edge.twoRefused(what, 2, ONE, 2, ONE, TYPE);
        }
        edge.two(6, 2, ONE, 2, ONE, 2, 45 * ONE);
    }

    private static void noOperation() {
        edge.sentence("Promise 2", "BAD when there is no such operation");
        edge.two(0, 1, 6, 1, 3, 1, 9);
        edge.two(10, 1, 6, 1, 3, 1, 48);
        for (int what : new int[] {MIN, -2, -1, 11, 12, MAX}) {
            edge.twoRefused(what, 1, 6, 1, 3, BAD);
            edge.twoRefused(what, 2, 6, 2, 3, BAD);
        }
    }

    private static void noKindOrNumber() {
        edge.sentence("Promise 2", "kind or number");
        for (int what = 0; what <= 10; what++) {
            for (int kind : new int[] {0, 3}) {
                edge.twoRefused(what, kind, 6, 2, 3, BAD);
                edge.twoRefused(what, 2, 6, kind, 3, BAD);
                edge.twoRefused(what, kind, MIN, 1, 3, BAD);
            }
            edge.twoRefused(what, 2, MIN, 1, 3, BAD);
            edge.twoRefused(what, 1, 6, 2, MIN, BAD);
        }
    }
}
