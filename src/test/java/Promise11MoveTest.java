/** Promise 11: move() moves a point by THE MATRIX, each one the exact sum, rounded once. */
final class Promise11MoveTest {
    private static final int MAX = Integer.MAX_VALUE;
    private static final int MIN = Integer.MIN_VALUE;
    private static final int ONE = 65536;
    private static final Due due = new Due("Promise11MoveTest");

    public static void main(String[] args) {
        plain();
        rounding();
        bad();
        range();
        wide();
        due.end();
    }

    private static FixedPlane with(int a, int b, int c, int d, int e, int f) {
        FixedPlane plane = new FixedPlane();
        plane.move(77, 78, true);
        plane.matrix(a, b, c, d, e, f);
        return plane;
    }

    private static void to(FixedPlane plane, int x, int y, boolean far, int toX, int toY) {
        String call = "move(" + x + ", " + y + ", " + far + ")";
        due.equal(call, plane.move(x, y, far), 1);
        due.moved(call, plane, toX, toY);
        due.result(call, plane, 1, 0);
    }

    private static void refused(FixedPlane plane, int x, int y, boolean far, int code) {
        String call = "move(" + x + ", " + y + ", " + far + ")";
        due.equal(call, plane.move(x, y, far), code);
        due.moved(call, plane, 77, 78);
    }

    private static void plain() {
        to(new FixedPlane(), MAX, -MAX, true, MAX, -MAX);
        FixedPlane plane = with(2 * ONE, 3 * ONE, 5 * ONE, 7 * ONE, 11, 13);
        to(plane, ONE, 0, true, 2 * ONE + 11, 3 * ONE + 13);
        to(plane, 0, ONE, true, 5 * ONE + 11, 7 * ONE + 13);
        to(plane, 0, 0, true, 11, 13);
        to(plane, ONE, ONE, false, 7 * ONE, 10 * ONE);
        to(plane, 0, 0, false, 0, 0);
        due.entries("move() leaves THE MATRIX", plane, 2 * ONE, 3 * ONE, 5 * ONE, 7 * ONE, 11, 13);
    }

    private static void rounding() {
        FixedPlane plane = with(32768, 32767, 32768, 0, 10, -20);
        to(plane, 1, 0, true, 11, -20);
        to(plane, -1, 0, true, 10, -20);
        to(plane, 1, 1, true, 11, -20);
        to(plane, -1, -1, false, -1, 0);
        to(plane, 3, 0, false, 2, 1);
        to(plane, -3, 0, false, -1, -1);
    }

    private static void bad() {
        refused(with(ONE, 0, 0, ONE, 0, 0), MIN, 0, true, -1);
        refused(with(ONE, 0, 0, ONE, 0, 0), 0, MIN, true, -1);
        refused(with(ONE, 0, 0, ONE, 0, 0), 0, MIN, false, -1);
        refused(with(MAX, MAX, MAX, MAX, MAX, MAX), MIN, MAX, true, -1);
    }

    private static void range() {
        refused(with(ONE, 0, 0, ONE, 1, 0), MAX, 0, true, -2);
        to(with(ONE, 0, 0, ONE, 1, 0), MAX, 0, false, MAX, 0);
        refused(with(ONE, 0, 0, ONE, -1, 0), -MAX, 0, true, -2);
        refused(with(ONE, 0, 0, ONE, 0, 1), 0, MAX, true, -2);
        refused(with(ONE, 0, 0, ONE, 0, -1), 0, -MAX, true, -2);
        refused(with(-ONE - 1, 0, 0, ONE, 0, 0), MAX, 0, false, -2);
        to(with(2 * ONE, 0, 0, 2 * ONE, -MAX, MAX), MAX, -MAX, true, MAX, -MAX);
    }

    /** The sums of the greatest products, which e and f would carry beyond 63 bits. */
    private static void wide() {
        FixedPlane plane = with(MAX, MAX, -MAX, MAX, MAX, MAX);
        refused(plane, MAX, MAX, true, -2);
        refused(plane, MAX, -MAX, true, -2);
        refused(plane, -MAX, MAX, true, -2);
        refused(with(MAX, MAX, MAX, MAX, MAX, MAX), MAX, MAX, true, -2);
        refused(with(MAX, MAX, MAX, MAX, -MAX, -MAX), -MAX, -MAX, true, -2);
        to(with(MAX, 0, -MAX, 0, MAX, -MAX), MAX, MAX, true, MAX, -MAX);
    }
}
