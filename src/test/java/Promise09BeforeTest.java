/** Promise 9: before() puts six reals before THE MATRIX. */
final class Promise09BeforeTest {
    private static final int MAX = Integer.MAX_VALUE;
    private static final int MIN = Integer.MIN_VALUE;
    private static final int ONE = 65536;
    private static final Due due = new Due("Promise09BeforeTest");

    public static void main(String[] args) {
        order();
        rounding();
        bad();
        range();
        movesAsBoth();
        due.end();
    }

    private static FixedPlane with(int a, int b, int c, int d, int e, int f) {
        FixedPlane plane = new FixedPlane();
        plane.matrix(a, b, c, d, e, f);
        plane.two(0, 2, 5, 2, 6);
        return plane;
    }

    private static void order() {
        FixedPlane plane = with(2 * ONE, 0, 0, -ONE, ONE, 5 * ONE);
        due.equal("before", plane.before(0, ONE, -ONE, 0, 2 * ONE, 0), 1);
        due.entries("before", plane, 0, -ONE, -2 * ONE, 0, 5 * ONE, 5 * ONE);
        due.result("before() leaves THE RESULT", plane, 2, 11);
        FixedPlane other = with(ONE, 2 * ONE, 3 * ONE, 4 * ONE, 5 * ONE, 6 * ONE);
        due.equal("six others", other.before(7 * ONE, 8 * ONE, 9 * ONE, 10 * ONE, 11 * ONE, 12 * ONE), 1);
        due.entries("six others", other, 31 * ONE, 46 * ONE, 39 * ONE, 58 * ONE, 52 * ONE, 76 * ONE);
        FixedPlane same = with(1, 2, 3, 4, 5, 6);
        due.equal("the one that moves nothing", same.before(ONE, 0, 0, ONE, 0, 0), 1);
        due.entries("the one that moves nothing", same, 1, 2, 3, 4, 5, 6);
    }

    private static void rounding() {
        FixedPlane plane = with(32768, 32767, 32768, 0, 10, 20);
        due.equal("halves", plane.before(1, 0, -1, 0, 0, 1), 1);
        due.entries("halves go up", plane, 1, 0, 0, 0, 11, 20);
        FixedPlane once = with(32768, 0, 32768, 0, 0, 0);
        due.equal("once", once.before(1, 1, 1, 0, -1, -1), 1);
        due.entries("the sum is rounded once", once, 1, 0, 1, 0, -1, 0);
    }

    private static void bad() {
        for (int k = 0; k < 6; k++) {
            int[] six = {1, 2, 3, 4, 5, 6};
            six[k] = MIN;
            FixedPlane plane = with(ONE, 0, 0, ONE, 7, 8);
            due.equal("the least int at " + k, put(plane, six), -1);
            due.entries("the least int at " + k, plane, ONE, 0, 0, ONE, 7, 8);
        }
        FixedPlane wide = with(MAX, MAX, MAX, MAX, MAX, MAX);
        due.equal("BAD before RANGE", wide.before(MAX, MAX, MAX, MAX, MAX, MIN), -1);
    }

    private static void range() {
        for (int k = 0; k < 6; k++) {
            int[] six = {0, 0, 0, 0, 0, 0};
            six[k] = ONE;
            FixedPlane plane = with(MAX, -MAX, MAX, -MAX, 0, 0);
            due.equal("at the end: " + k, put(plane, six), 1);
            six[k] = ONE + 1;
            FixedPlane refused = with(MAX, -MAX, MAX, -MAX, 0, 0);
            due.equal("beyond the end: " + k, put(refused, six), -2);
            due.entries("beyond the end: " + k, refused, MAX, -MAX, MAX, -MAX, 0, 0);
        }
        FixedPlane far = with(0, 0, 0, 0, MAX, -MAX);
        due.equal("e and f alone", far.before(MAX, MAX, MAX, MAX, MAX, MAX), 1);
        due.entries("e and f alone", far, 0, 0, 0, 0, MAX, -MAX);
        FixedPlane up = with(ONE, 0, 0, ONE, MAX, 0);
        due.equal("e one too far", up.before(ONE, 0, 0, ONE, 1, 0), -2);
        FixedPlane down = with(ONE, 0, 0, ONE, 0, -MAX);
        due.equal("f one too far", down.before(ONE, 0, 0, ONE, 0, -1), -2);
        due.entries("f one too far", down, ONE, 0, 0, ONE, 0, -MAX);
        FixedPlane great = with(MAX, MAX, MAX, MAX, MAX, MAX);
        due.equal("the greatest of all", great.before(MAX, MAX, MAX, MAX, MAX, MAX), -2);
    }

    private static void movesAsBoth() {
        FixedPlane both = with(0, ONE, -ONE, 0, 3 * ONE, 0);
        both.before(2 * ONE, 0, 0, 3 * ONE, ONE, ONE);
        both.move(5 * ONE, 7 * ONE, true);
        FixedPlane apart = with(2 * ONE, 0, 0, 3 * ONE, ONE, ONE);
        apart.move(5 * ONE, 7 * ONE, true);
        int x = apart.moved(0);
        int y = apart.moved(1);
        apart.matrix(0, ONE, -ONE, 0, 3 * ONE, 0);
        apart.move(x, y, true);
        due.moved("as M and then N", both, apart.moved(0), apart.moved(1));
        due.moved("as M and then N", both, -19 * ONE, 11 * ONE);
        both.before(ONE, 0, 0, ONE, ONE, ONE);
        due.moved("before() leaves where the point came to", both, -19 * ONE, 11 * ONE);
    }

    private static int put(FixedPlane plane, int[] six) {
        return plane.before(six[0], six[1], six[2], six[3], six[4], six[5]);
    }
}
