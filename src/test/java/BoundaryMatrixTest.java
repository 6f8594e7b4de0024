/** The MATRIX paragraph of "Terms" with Promises 7, 9, 10 and 11. */
final class BoundaryMatrixTest {
    private static final int MAX = Boundary.MAX;
    private static final int MIN = Boundary.MIN;
    private static final int ONE = Boundary.ONE;
    private static final int BAD = Boundary.BAD;
    private static final int RANGE = Boundary.RANGE;
    private static final int UNDEFINED = Boundary.UNDEFINED;

    /** 65537 times this is the greatest real and a half, in units. */
    private static final int NEARLY = 2147450880;

    private static final Boundary edge = new Boundary("BoundaryMatrixTest");

    public static void main(String[] args) {
        moves();
        movesRoundOnce();
        movesAtTheEnds();
        moveBad();
        moveRange();
        matrixOfSix();
        matrixRefused();
        beforeMoves();
        beforeLeavesOutTheStep();
        beforeBad();
        beforeRange();
        inverseExactly();
        inverseUndefined();
        inverseRoundsNumbers();
        inverseRoundsSteps();
        inverseAtTheEnds();
        stepsOfInverseAtTheEnds();
        invertRange();
        edge.end();
    }

    private static int[] six(int a, int b, int c, int d, int e, int f) {
        return Boundary.six(a, b, c, d, e, f);
    }

    private static final String MOVES = "it moves (x, y) to (x a + y c + e, x b + y d + f):"
        + " each one the exact sum, rounded once.";

    private static void moves() {
        edge.sentence("Terms, Promise 11", MOVES);
        int[] matrix = six(2 * ONE, 3 * ONE, 5 * ONE, 7 * ONE, 11, 13);
        edge.move(matrix, 0, 0, true, 11, 13);
        edge.move(matrix, 1, 0, true, 13, 16);
        edge.move(matrix, 0, 1, true, 16, 20);
        edge.move(matrix, -1, -1, true, 4, 3);
        edge.sentence("Promise 11", "(without e and f when far is false)");
        edge.move(matrix, 0, 0, false, 0, 0);
        edge.move(matrix, 1, 0, false, 2, 3);
        edge.move(matrix, 0, 1, false, 5, 7);
        edge.move(six(ONE, 0, 0, ONE, 1, -1), MAX, -MAX, false, MAX, -MAX);
    }

    private static void movesRoundOnce() {
        edge.sentence("Terms, Promise 11, rounded", MOVES);
        int[] halves = six(32768, 32767, 32768, 32767, 0, 0);
        edge.move(halves, 1, 0, true, 1, 0);
        edge.move(halves, -1, 0, true, 0, 0);
        edge.move(halves, 1, 1, true, 1, 1);
        edge.move(halves, -1, -1, true, -1, -1);
        edge.move(halves, 3, -2, true, 1, 0);
        edge.move(halves, -3, 0, true, -1, -1);
        edge.move(six(16384, 16383, 16384, 16384, 0, 0), 1, 1, true, 1, 0);
        edge.move(six(-16384, -16385, -16384, -16384, 0, 0), 1, 1, true, 0, -1);
        // A half beside a step: 0.5 - 1 comes to 0, and not to the -1 of a rounding towards 0 or away from it.
        edge.move(six(32768, 32767, 0, 0, -1, -1), 1, 0, true, 0, -1);
        edge.move(six(32768, 32769, 0, 0, 1, 1), -1, 0, true, 1, 0);
    }

    /** What a sum goes through may lie beyond the reals, and beyond 63 bits with e and f in it. */
    private static void movesAtTheEnds() {
        edge.sentence("Terms, Promise 11, exact", MOVES);
        edge.move(six(MAX, MAX, -MAX, -MAX, MAX, -MAX), MAX, MAX, true, MAX, -MAX);
        edge.move(six(MAX, -MAX, MAX, -MAX, 0, 0), MAX, -MAX, true, 0, 0);
        edge.move(six(2 * ONE, -2 * ONE, 0, 0, -MAX, MAX), MAX, 0, true, MAX, -MAX);
        edge.move(six(NEARLY, NEARLY, 1, 0, -MAX, -MAX), 65537, -1, true, 0, 1);
        edge.move(six(NEARLY, 0, 1, 0, 0, 0), 65537, -1, true, MAX, 0);
        edge.moveRefused(six(NEARLY, 0, 1, 0, 0, 0), 65537, 0, true, RANGE);
        edge.move(six(0, NEARLY, 0, 1, 0, 0), 65537, -1, false, 0, MAX);
        edge.moveRefused(six(0, NEARLY, 0, 1, 0, 0), 65537, 0, false, RANGE);
        edge.move(six(NEARLY, 0, 1, 0, 0, 0), -65537, 0, true, -MAX, 0);
        edge.moveRefused(six(NEARLY, 0, 1, 0, 0, 0), -65537, -1, true, RANGE);
        edge.move(six(0, NEARLY, 0, 1, 0, 0), -65537, 0, false, 0, -MAX);
        edge.moveRefused(six(0, NEARLY, 0, 1, 0, 0), -65537, -1, false, RANGE);
    }

    private static void moveBad() {
        edge.sentence("Promise 11", "BAD when one is -2^31; RANGE.");
        int[] same = six(ONE, 0, 0, ONE, 0, 0);
        edge.move(same, -MAX, -MAX, true, -MAX, -MAX);
        edge.move(same, MAX, MAX, true, MAX, MAX);
        for (int far = 0; far <= 1; far++) {
            edge.moveRefused(same, MIN, 0, far == 1, BAD);
            edge.moveRefused(same, 0, MIN, far == 1, BAD);
            edge.moveRefused(same, MIN, MIN, far == 1, BAD);
            edge.moveRefused(six(MAX, MAX, MAX, MAX, MAX, MAX), MIN, MAX, far == 1, BAD);
            edge.moveRefused(six(0, 0, 0, 0, 0, 0), MIN, MIN, far == 1, BAD);
        }
    }

    /** When but one of x and y lies beyond, neither is kept. */
    private static void moveRange() {
        edge.sentence("Promise 11, RANGE", "BAD when one is -2^31; RANGE.");
        int[] stepX = six(ONE, 0, 0, ONE, 1, 0);
        edge.move(stepX, MAX - 1, 5, true, MAX, 5);
        edge.moveRefused(stepX, MAX, 5, true, RANGE);
        int[] stepY = six(ONE, 0, 0, ONE, 0, 1);
        edge.move(stepY, 5, MAX - 1, true, 5, MAX);
        edge.moveRefused(stepY, 5, MAX, true, RANGE);
        int[] back = six(ONE, 0, 0, ONE, -1, -1);
        edge.move(back, 1 - MAX, 1 - MAX, true, -MAX, -MAX);
        edge.moveRefused(back, -MAX, 0, true, RANGE);
        edge.moveRefused(back, 0, -MAX, true, RANGE);
        edge.moveRefused(six(ONE + 1, 0, 0, ONE, 0, 0), MAX, 0, false, RANGE);
        edge.moveRefused(six(ONE, 0, 0, -ONE - 1, 0, 0), 0, MAX, false, RANGE);
        edge.moveRefused(six(MAX, MAX, MAX, MAX, MAX, MAX), MAX, MAX, true, RANGE);
        edge.moveRefused(six(MAX, MAX, MAX, MAX, -MAX, -MAX), -MAX, -MAX, true, RANGE);
    }

    private static void matrixOfSix() {
        edge.sentence("Terms, Promise 7", "A MATRIX is six reals a b c d e f");
        edge.matrix(MAX, -MAX, MAX, -MAX, MAX, -MAX);
        edge.matrix(-MAX, MAX, -MAX, MAX, -MAX, MAX);
        edge.matrix(0, 0, 0, 0, 0, 0);
        edge.matrix(1, -2, 3, -4, 5, -6);
    }

    private static void matrixRefused() {
        edge.sentence("Promise 7", "THE MATRIX is that of six reals, by their units: true; false when one is -2^31.");
        for (int k = 0; k < 6; k++) {
            int[] entries = six(10, 20, 30, 40, 50, 60);
            entries[k] = -MAX;
            edge.matrix(entries);
            entries[k] = MAX;
            edge.matrix(entries);
            entries[k] = MIN;
            edge.matrixRefused(entries);
        }
        edge.matrixRefused(MIN, MIN, MIN, MIN, MIN, MIN);
    }

    private static void beforeMoves() {
        edge.sentence("Terms, Promise 9", "M BEFORE N moves points as M and then N:");
        int[] quarterTurn = six(0, ONE, -ONE, 0, 0, 0);
        int[] step = six(ONE, 0, 0, ONE, 3, 4);
        edge.before(quarterTurn, step, 0, ONE, -ONE, 0, 3, 4);
        edge.before(step, quarterTurn, 0, ONE, -ONE, 0, -4, 3);
        edge.before(six(ONE, 0, 0, ONE, 0, 0), six(1, 2, 3, 4, 5, 6), 1, 2, 3, 4, 5, 6);
        edge.before(six(1, 2, 3, 4, 5, 6), six(ONE, 0, 0, ONE, 0, 0), 1, 2, 3, 4, 5, 6);
        edge.before(six(MAX, -MAX, MAX, -MAX, MAX, -MAX), six(ONE, 0, 0, ONE, 0, 0), MAX, -MAX, MAX, -MAX, MAX, -MAX);
    }

    private static final String PARTS = "its a b c d are as those of moving (a, b) and (c, d) by N without e and f,"
        + " its e f as of moving (e, f) by N.";

    /** The step of N comes to e and f alone; each of the six is rounded once. */
    private static void beforeLeavesOutTheStep() {
        edge.sentence("Terms, Promise 9", PARTS);
        int[] far = six(ONE, 0, 0, ONE, MAX, -MAX);
        edge.before(six(MAX, -MAX, MAX, -MAX, 0, 0), far, MAX, -MAX, MAX, -MAX, MAX, -MAX);
        edge.before(six(MAX, -MAX, MAX, -MAX, -1, 1), far, MAX, -MAX, MAX, -MAX, MAX - 1, 1 - MAX);
        edge.beforeRefused(six(0, 0, 0, 0, 1, 0), far, RANGE);
        edge.beforeRefused(six(0, 0, 0, 0, 0, -1), far, RANGE);
        edge.before(six(MAX, MAX, MAX, MAX, MAX, MAX), six(0, 0, 0, 0, MAX, -MAX), 0, 0, 0, 0, MAX, -MAX);
        int[] halves = six(32768, 32767, 32768, 32769, 10, 20);
        edge.before(six(1, 0, -1, 0, 1, 0), halves, 1, 0, 0, 0, 11, 20);
        edge.before(six(0, 1, 0, -1, 0, -1), halves, 1, 1, 0, -1, 10, 19);
        edge.before(six(1, 1, -1, -1, 3, 0), halves, 1, 1, -1, -1, 12, 21);
        edge.beforeRefused(six(MAX, -MAX, -MAX, MAX, MAX, MAX), six(MAX, MAX, MAX, MAX, -MAX, MAX), RANGE);
    }

    private static void beforeBad() {
        edge.sentence("Promise 9", "BAD when one is -2^31; RANGE.");
        for (int k = 0; k < 6; k++) {
            int[] first = six(1, 2, 3, 4, 5, 6);
            first[k] = MIN;
            edge.beforeRefused(first, six(ONE, 0, 0, ONE, 7, 8), BAD);
            edge.beforeRefused(first, six(0, 0, 0, 0, 0, 0), BAD);
            edge.beforeRefused(first, six(MAX, MAX, MAX, MAX, MAX, MAX), BAD);
        }
        edge.beforeRefused(six(MIN, MIN, MIN, MIN, MIN, MIN), six(ONE, 0, 0, ONE, 7, 8), BAD);
    }

    /** When but one of the six lies beyond, none is kept. */
    private static void beforeRange() {
        edge.sentence("Promise 9, RANGE", "BAD when one is -2^31; RANGE.");
        int[] toX = six(NEARLY, 0, 1, 0, 0, 0);
        int[] toY = six(0, NEARLY, 0, 1, 0, 0);
        for (int k = 0; k < 6; k += 2) {
            edge.before(pair(k, 65537, -1), toX, single(k, MAX));
            edge.beforeRefused(pair(k, 65537, 0), toX, RANGE);
            edge.before(pair(k, -65537, 0), toX, single(k, -MAX));
            edge.beforeRefused(pair(k, -65537, -1), toX, RANGE);
            edge.before(pair(k, 65537, -1), toY, single(k + 1, MAX));
            edge.beforeRefused(pair(k, 65537, 0), toY, RANGE);
            edge.before(pair(k, -65537, 0), toY, single(k + 1, -MAX));
            edge.beforeRefused(pair(k, -65537, -1), toY, RANGE);
        }
        edge.beforeRefused(six(MAX, MAX, MAX, MAX, MAX, MAX), six(MAX, MAX, MAX, MAX, MAX, MAX), RANGE);
        edge.beforeRefused(six(-MAX, -MAX, -MAX, -MAX, -MAX, -MAX), six(MAX, MAX, MAX, MAX, -MAX, -MAX), RANGE);
    }

    private static int[] pair(int k, int x, int y) {
        int[] entries = new int[6];
        entries[k] = x;
        entries[k + 1] = y;
        return entries;
    }

    private static int[] single(int k, int entry) {
        int[] entries = new int[6];
        entries[k] = entry;
        return entries;
    }

    private static final String INVERSE = "The INVERSE, for D = a d - b c, exactly, other than 0 (UNDEFINED):"
        + " d / D, -b / D, -c / D, a / D, (c f - d e) / D, (b e - a f) / D,"
        + " each rounded once from the exact quotient.";

    /** D is 9 units of units, which is no unit, and yet not 0. */
    private static void inverseExactly() {
        edge.sentence("Terms, Promise 10, D exactly", INVERSE);
        edge.invert(six(3, 0, 0, 3, 0, 0), 1431655765, 0, 0, 1431655765, 0, 0);
        edge.invert(six(3, 0, 0, -3, 0, 0), 1431655765, 0, 0, -1431655765, 0, 0);
        edge.invertRefused(six(2, 1, 1, 1, 0, 0), RANGE);
        edge.invertRefused(six(1, 1, 2, 1, 0, 0), RANGE);
        edge.invertRefused(six(MAX - 1, MAX, MAX - 2, MAX - 1, 0, 0), RANGE);
        edge.invertRefused(six(MAX, MAX - 1, MAX - 1, MAX - 2, 0, 0), RANGE);
        edge.invert(six(MAX, MAX, -MAX, MAX, MAX, MAX), 1, -1, 1, 1, -ONE, 0);
        edge.invert(six(MAX, -MAX, -MAX, -MAX, MAX, MAX), 1, -1, -1, -1, 0, ONE);
        edge.invert(six(ONE, 2 * ONE, 3 * ONE, 4 * ONE, 5 * ONE, 6 * ONE),
            -2 * ONE, ONE, 3 * ONE / 2, -ONE / 2, ONE, -2 * ONE);
    }

    private static void inverseUndefined() {
        edge.sentence("Terms, Promise 10, D is 0", INVERSE);
        edge.invertRefused(six(0, 0, 0, 0, 0, 0), UNDEFINED);
        edge.invertRefused(six(0, 0, 0, 0, MAX, -MAX), UNDEFINED);
        edge.invertRefused(six(ONE, 2 * ONE, 2 * ONE, 4 * ONE, 1, 2), UNDEFINED);
        edge.invertRefused(six(1, 1, 1, 1, 0, 0), UNDEFINED);
        edge.invertRefused(six(ONE, 0, 0, 0, 1, 1), UNDEFINED);
        edge.invertRefused(six(0, ONE, 0, ONE, 1, 1), UNDEFINED);
        edge.invertRefused(six(MAX, MAX, MAX, MAX, 0, 0), UNDEFINED);
        edge.invertRefused(six(MAX, -MAX, MAX, -MAX, MAX, MAX), UNDEFINED);
        edge.invertRefused(six(MAX, MAX, -MAX, -MAX, -MAX, MAX), UNDEFINED);
    }

    /** D is 2^33 units of units, above or below 0: an odd number of units comes to a half, which goes up. */
    private static void inverseRoundsNumbers() {
        edge.sentence("Terms, Promise 10, a b c d rounded", INVERSE);
        edge.invert(six(0, 2 * ONE, -ONE, 1, 0, 0), 1, -ONE, ONE / 2, 0, 0, 0);
        edge.invert(six(0, 2 * ONE, -ONE, -1, 0, 0), 0, -ONE, ONE / 2, 0, 0, 0);
        edge.invert(six(0, 2 * ONE, ONE, 1, 0, 0), 0, ONE, ONE / 2, 0, 0, 0);
        edge.invert(six(0, 2 * ONE, ONE, -1, 0, 0), 1, ONE, ONE / 2, 0, 0, 0);
        edge.invert(six(1, 2 * ONE, -ONE, 0, 0, 0), 0, -ONE, ONE / 2, 1, 0, 0);
        edge.invert(six(-1, 2 * ONE, -ONE, 0, 0, 0), 0, -ONE, ONE / 2, 0, 0, 0);
        edge.invert(six(2 * ONE, 1, 0, ONE, 0, 0), ONE / 2, 0, 0, ONE, 0, 0);
        edge.invert(six(2 * ONE, -1, 0, ONE, 0, 0), ONE / 2, 1, 0, ONE, 0, 0);
        edge.invert(six(2 * ONE, 3, 0, ONE, 0, 0), ONE / 2, -1, 0, ONE, 0, 0);
        edge.invert(six(2 * ONE, 0, 1, ONE, 0, 0), ONE / 2, 0, 0, ONE, 0, 0);
        edge.invert(six(2 * ONE, 0, -1, ONE, 0, 0), ONE / 2, 0, 1, ONE, 0, 0);
        edge.invert(six(2 * ONE, 0, -3, ONE, 0, 0), ONE / 2, 0, 2, ONE, 0, 0);
        edge.invert(six(2 * ONE + 1, -1, 1, ONE, 0, 0), ONE / 2, 0, 0, ONE, 0, 0);
        edge.invert(six(2 * ONE - 1, -1, 1, ONE, 0, 0), ONE / 2, 1, -1, ONE, 0, 0);
    }

    private static void inverseRoundsSteps() {
        edge.sentence("Terms, Promise 10, e f rounded", INVERSE);
        edge.invert(six(2 * ONE, 0, 0, ONE, 1, 0), ONE / 2, 0, 0, ONE, 0, 0);
        edge.invert(six(2 * ONE, 0, 0, ONE, -1, 0), ONE / 2, 0, 0, ONE, 1, 0);
        edge.invert(six(2 * ONE, 0, 0, ONE, 3, 0), ONE / 2, 0, 0, ONE, -1, 0);
        edge.invert(six(2 * ONE, 0, 0, ONE, -3, 0), ONE / 2, 0, 0, ONE, 2, 0);
        edge.invert(six(2 * ONE, 0, 0, -ONE, 1, 0), ONE / 2, 0, 0, -ONE, 0, 0);
        edge.invert(six(2 * ONE, 0, 0, -ONE, -1, 0), ONE / 2, 0, 0, -ONE, 1, 0);
        edge.invert(six(ONE, 0, 0, 2 * ONE, 0, 1), ONE, 0, 0, ONE / 2, 0, 0);
        edge.invert(six(ONE, 0, 0, 2 * ONE, 0, -1), ONE, 0, 0, ONE / 2, 0, 1);
        edge.invert(six(-ONE, 0, 0, 2 * ONE, 0, 1), -ONE, 0, 0, ONE / 2, 0, 0);
        edge.invert(six(2 * ONE + 1, 0, 0, ONE, 1, 0), ONE / 2, 0, 0, ONE, 0, 0);
        edge.invert(six(2 * ONE - 1, 0, 0, ONE, 1, 0), ONE / 2, 0, 0, ONE, -1, 0);
        edge.invert(six(2 * ONE + 1, 0, 0, ONE, -1, 0), ONE / 2, 0, 0, ONE, 0, 0);
        edge.invert(six(2 * ONE - 1, 0, 0, ONE, -1, 0), ONE / 2, 0, 0, ONE, 1, 0);
    }

    /** The greatest real and hardly less than a half, in each place; then 2^31, or hardly more, which is beyond. */
    private static void inverseAtTheEnds() {
        edge.sentence("Terms, Promise 10, a b c d at the ends", INVERSE);
        edge.invert(six(2, 1, -1, MAX, 0, 0), MAX, -1, 1, 2, 0, 0);
        edge.invert(six(-2, 1, 1, MAX, 0, 0), -MAX, 1, 1, 2, 0, 0);
        edge.invertRefused(six(2, 0, 0, MAX, 0, 0), RANGE);
        edge.invertRefused(six(-2, 0, 0, MAX, 0, 0), RANGE);
        edge.invert(six(MAX, 1, -1, 2, 0, 0), 2, -1, 1, MAX, 0, 0);
        edge.invert(six(MAX, 1, 1, -2, 0, 0), 2, 1, 1, -MAX, 0, 0);
        edge.invertRefused(six(MAX, 0, 0, 2, 0, 0), RANGE);
        edge.invertRefused(six(MAX, 0, 0, -2, 0, 0), RANGE);
        edge.invert(six(1, MAX, 2, -1, 0, 0), 1, MAX, 2, -1, 0, 0);
        edge.invert(six(1, MAX, -2, 1, 0, 0), 1, -MAX, 2, 1, 0, 0);
        edge.invertRefused(six(0, MAX, 2, 0, 0, 0), RANGE);
        edge.invertRefused(six(0, MAX, -2, 0, 0, 0), RANGE);
        edge.invert(six(1, 2, MAX, -1, 0, 0), 1, 2, MAX, -1, 0, 0);
        edge.invert(six(1, -2, MAX, 1, 0, 0), 1, 2, -MAX, 1, 0, 0);
        edge.invertRefused(six(0, 2, MAX, 0, 0, 0), RANGE);
        edge.invertRefused(six(0, -2, MAX, 0, 0, 0), RANGE);
    }

    /** 65535 times 65537 is 2^32 - 1: by 2^17 that is the greatest real and a half, in units. */
    private static void stepsOfInverseAtTheEnds() {
        edge.sentence("Terms, Promise 10, e f at the ends", INVERSE);
        edge.invert(six(ONE, 0, 0, ONE, MAX, -MAX), ONE, 0, 0, ONE, -MAX, MAX);
        edge.invertRefused(six(512, 0, 65535, 256, 0, 65537), RANGE);
        edge.invert(six(512, 0, 65535, 256, 0, -65537), 1 << 23, 0, -NEARLY, 1 << 24, -MAX, 16777472);
        edge.invertRefused(six(256, 65535, 0, 512, 65537, 0), RANGE);
        edge.invert(six(256, 65535, 0, 512, -65537, 0), 1 << 24, -NEARLY, 0, 1 << 23, 16777472, -MAX);
        edge.invert(six(ONE / 2, 0, 0, ONE, (1 << 30) - 1, 0), 2 * ONE, 0, 0, ONE, 1 - MAX, 0);
        edge.invertRefused(six(ONE / 2, 0, 0, ONE, 1 << 30, 0), RANGE);
        edge.invertRefused(six(ONE / 2, 0, 0, ONE, -(1 << 30), 0), RANGE);
        edge.invert(six(ONE, 0, 0, ONE / 2, 0, 1 - (1 << 30)), ONE, 0, 0, 2 * ONE, 0, MAX - 1);
        edge.invertRefused(six(ONE, 0, 0, ONE / 2, 0, 1 << 30), RANGE);
        edge.invertRefused(six(ONE, 0, 0, ONE / 2, 0, -(1 << 30)), RANGE);
        edge.invertRefused(six(3, 0, 0, 3, MAX, MAX), RANGE);
    }

    private static void invertRange() {
        edge.sentence("Promise 10", "THE MATRIX becomes its INVERSE: 1. UNDEFINED; RANGE.");
        edge.invert(six(3, 0, 0, ONE, 0, 0), 1431655765, 0, 0, ONE, 0, 0);
        edge.invertRefused(six(2, 0, 0, ONE, 0, 0), RANGE);
        edge.invertRefused(six(1, 0, 0, ONE, 0, 0), RANGE);
        edge.invertRefused(six(0, 0, 0, ONE, 0, 0), UNDEFINED);
        edge.invertRefused(six(-1, 0, 0, ONE, 0, 0), RANGE);
        edge.invertRefused(six(-2, 0, 0, ONE, 0, 0), RANGE);
        edge.invert(six(-3, 0, 0, ONE, 0, 0), -1431655765, 0, 0, ONE, 0, 0);
    }
}
