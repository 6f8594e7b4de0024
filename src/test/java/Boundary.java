import java.util.Arrays;
import java.util.function.ToIntFunction;

/**
 * What the boundary tests share. Each test stands under a sentence of the document; each call is made on planes
 * whose RESULT, MATRIX and latest move are known, and may change what it answers for and nothing else.
 */
final class Boundary {
    static final int MAX = Integer.MAX_VALUE;
    static final int MIN = Integer.MIN_VALUE;
    static final int ONE = 65536;
    static final int BAD = -1;
    static final int RANGE = -2;
    static final int UNDEFINED = -3;
    static final int TYPE = -4;

    private static final int[] SOME_MATRIX = {3, 5, 7, 11, 13, 17};

    private final Due due;
    private String sentence = "";
    private int asked = 0;

    Boundary(String test) {
        due = new Due(test);
    }

    /** The sentence that the next calls are the test of, and where it stands. */
    void sentence(String where, String words) {
        closeSentence();
        sentence = where + ": \"" + words + "\"";
        asked = 0;
    }

    void end() {
        closeSentence();
        due.end();
    }

    private void closeSentence() {
        if (!sentence.isEmpty()) {
            due.equal(sentence + " has a test", asked > 0, true);
        }
    }

    void equal(String call, long got, long want) {
        asked++;
        due.equal(sentence + " " + call, got, want);
    }

    void state(String call, FixedPlane plane, State want) {
        due.same(sentence + " " + call + ", asked what it left,", State.of(plane), want);
    }

    /** Two planes with that matrix: a code that changes but the kind of THE RESULT shows on one of them. */
    private static FixedPlane[] planes(int... m) {
        FixedPlane whole = new FixedPlane();
        FixedPlane real = new FixedPlane();
        whole.two(0, 1, 77, 1, 0);
        real.two(0, 2, 77, 2, 0);
        for (FixedPlane plane : new FixedPlane[] {whole, real}) {
            plane.move(30, 44, false);
            plane.matrix(m[0], m[1], m[2], m[3], m[4], m[5]);
        }
        return new FixedPlane[] {whole, real};
    }

    /** A call that answers a code, and changes nothing. */
    private void refused(String call, int[] matrix, ToIntFunction<FixedPlane> asking, int code) {
        for (FixedPlane plane : planes(matrix)) {
            State before = State.of(plane);
            equal(call, asking.applyAsInt(plane), code);
            state(call, plane, before);
        }
    }

    /** two() that comes to a value. */
    void two(int what, int kindA, int a, int kindB, int b, int kind, int number) {
        String call = call("two", what, kindA, a, kindB, b);
        for (FixedPlane plane : planes(SOME_MATRIX)) {
            State want = State.of(plane).withResult(kind, number);
            equal(call, plane.two(what, kindA, a, kindB, b), kind);
            state(call, plane, want);
        }
    }

    void twoRefused(int what, int kindA, int a, int kindB, int b, int code) {
        refused(call("two", what, kindA, a, kindB, b), SOME_MATRIX,
            plane -> plane.two(what, kindA, a, kindB, b), code);
    }

    /** one() that comes to a value. */
    void one(int what, int kindA, int a, int kind, int number) {
        String call = call("one", what, kindA, a);
        for (FixedPlane plane : planes(SOME_MATRIX)) {
            State want = State.of(plane).withResult(kind, number);
            equal(call, plane.one(what, kindA, a), kind);
            state(call, plane, want);
        }
    }

    void oneRefused(int what, int kind, int a, int code) {
        refused(call("one", what, kind, a), SOME_MATRIX, plane -> plane.one(what, kind, a), code);
    }

    /** compare(), which never changes anything. */
    void compare(int kindA, int a, int kindB, int b, int answer) {
        refused(call("compare", kindA, a, kindB, b), SOME_MATRIX,
            plane -> plane.compare(kindA, a, kindB, b), answer);
    }

    /** A and B both ways round. */
    void compareBothWays(int kindA, int a, int kindB, int b, int answer) {
        compare(kindA, a, kindB, b, answer);
        compare(kindB, b, kindA, a, 2 - answer);
    }

    void matrix(int... m) {
        String call = call("matrix", m);
        for (FixedPlane plane : planes(SOME_MATRIX)) {
            State want = State.of(plane).withMatrix(m);
            equal(call, plane.matrix(m[0], m[1], m[2], m[3], m[4], m[5]) ? 1 : 0, 1);
            state(call, plane, want);
        }
    }

    void matrixRefused(int... m) {
        refused(call("matrix", m), SOME_MATRIX,
            plane -> plane.matrix(m[0], m[1], m[2], m[3], m[4], m[5]) ? 1 : 0, 0);
    }

    /** first BEFORE then, which is THE MATRIX. */
    void before(int[] first, int[] then, int... entries) {
        String call = call("before", first) + " of " + Arrays.toString(then);
        for (FixedPlane plane : planes(then)) {
            State want = State.of(plane).withMatrix(entries);
            equal(call, put(plane, first), 1);
            state(call, plane, want);
        }
    }

    void beforeRefused(int[] first, int[] then, int code) {
        refused(call("before", first) + " of " + Arrays.toString(then), then, plane -> put(plane, first), code);
    }

    private static int put(FixedPlane plane, int[] m) {
        return plane.before(m[0], m[1], m[2], m[3], m[4], m[5]);
    }

    void invert(int[] matrix, int... entries) {
        String call = "invert() of " + Arrays.toString(matrix);
        for (FixedPlane plane : planes(matrix)) {
            State want = State.of(plane).withMatrix(entries);
            equal(call, plane.invert(), 1);
            state(call, plane, want);
        }
    }

    void invertRefused(int[] matrix, int code) {
        refused("invert() of " + Arrays.toString(matrix), matrix, FixedPlane::invert, code);
    }

    void move(int[] matrix, int x, int y, boolean far, int toX, int toY) {
        String call = call("move", x, y) + far + " by " + Arrays.toString(matrix);
        for (FixedPlane plane : planes(matrix)) {
            State want = State.of(plane).withMoved(toX, toY);
            equal(call, plane.move(x, y, far), 1);
            state(call, plane, want);
        }
    }

    void moveRefused(int[] matrix, int x, int y, boolean far, int code) {
        refused(call("move", x, y) + far + " by " + Arrays.toString(matrix), matrix,
            plane -> plane.move(x, y, far), code);
    }

    /** Six entries, or arguments, in a row. */
    static int[] six(int a, int b, int c, int d, int e, int f) {
        return new int[] {a, b, c, d, e, f};
    }

    private static String call(String name, int... arguments) {
        return name + Arrays.toString(arguments);
    }
}
