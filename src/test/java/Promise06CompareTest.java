/** Promise 6: compare() is exact, across the kinds and beyond the wholes that are reals. */
final class Promise06CompareTest {
    private static final int MAX = Integer.MAX_VALUE;
    private static final int MIN = Integer.MIN_VALUE;
    private static final Due due = new Due("Promise06CompareTest");

    public static void main(String[] args) {
        oneKind();
        twoKinds();
        bad();
        due.end();
    }

    private static void compared(int kindA, int a, int kindB, int b, int answer) {
        FixedPlane plane = new FixedPlane();
        plane.two(0, 2, 5, 2, 6);
        String call = "compare(" + kindA + ", " + a + ", " + kindB + ", " + b + ")";
        due.equal(call, plane.compare(kindA, a, kindB, b), answer);
        due.result(call, plane, 2, 11);
    }

    /** The same two values both ways round. */
    private static void bothWays(int kindA, int a, int kindB, int b, int answer) {
        compared(kindA, a, kindB, b, answer);
        compared(kindB, b, kindA, a, 2 - answer);
    }

    private static void oneKind() {
        bothWays(1, 1, 1, 2, 0);
        bothWays(1, 2, 1, 2, 1);
        bothWays(1, MIN, 1, MAX, 0);
        bothWays(1, MIN, 1, MIN, 1);
        bothWays(1, -1, 1, 0, 0);
        bothWays(2, 1, 2, 2, 0);
        bothWays(2, -MAX, 2, MAX, 0);
        bothWays(2, MAX, 2, MAX, 1);
    }

    private static void twoKinds() {
        bothWays(1, 1, 2, 65535, 2);
        bothWays(1, 1, 2, 65536, 1);
        bothWays(1, 1, 2, 65537, 0);
        bothWays(1, -1, 2, -65536, 1);
        bothWays(1, 0, 2, -1, 2);
        bothWays(1, 32767, 2, MAX, 0);
        bothWays(1, 32768, 2, MAX, 2);
        bothWays(1, -32768, 2, -MAX, 0);
        bothWays(1, 65536, 2, 0, 2);
        bothWays(1, MIN, 2, 0, 0);
        bothWays(1, MAX, 2, MAX, 2);
        bothWays(1, MIN, 2, -MAX, 0);
    }

    private static void bad() {
        for (int kind : new int[] {MIN, -1, 0, 3, MAX}) {
            compared(kind, 1, 1, 1, -1);
            compared(1, 1, kind, 1, -1);
        }
        compared(2, MIN, 1, 1, -1);
        compared(1, 1, 2, MIN, -1);
        compared(2, MIN, 2, MIN, -1);
    }
}
