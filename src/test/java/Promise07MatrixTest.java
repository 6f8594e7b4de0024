/** Promise 7: matrix() takes six reals, or none. */
final class Promise07MatrixTest {
    private static final int MAX = Integer.MAX_VALUE;
    private static final int MIN = Integer.MIN_VALUE;

    public static void main(String[] args) {
        Due due = new Due("Promise07MatrixTest");
        FixedPlane plane = new FixedPlane();
        due.equal("matrix", plane.matrix(1, -2, 3, -4, 5, -6), true);
        due.entries("matrix", plane, 1, -2, 3, -4, 5, -6);
        for (int k = 0; k < 6; k++) {
            int[] six = {10, 20, 30, 40, 50, 60};
            six[k] = MIN;
            due.equal("the least int at " + k, set(plane, six), false);
            due.entries("the least int at " + k, plane, 1, -2, 3, -4, 5, -6);
        }
        due.equal("the ends", plane.matrix(MAX, -MAX, MAX, -MAX, MAX, -MAX), true);
        due.entries("the ends", plane, MAX, -MAX, MAX, -MAX, MAX, -MAX);
        due.equal("all 0", plane.matrix(0, 0, 0, 0, 0, 0), true);
        due.entries("all 0", plane, 0, 0, 0, 0, 0, 0);
        plane.move(5, 6, true);
        plane.matrix(65536, 0, 0, 65536, 1, 2);
        plane.move(5, 6, true);
        due.moved("moved", plane, 6, 8);
        plane.matrix(0, 0, 0, 0, 0, 0);
        due.moved("matrix() leaves where the point came to", plane, 6, 8);
        due.result("matrix() leaves THE RESULT", plane, 1, 0);
        due.end();
    }

    private static boolean set(FixedPlane plane, int[] six) {
        return plane.matrix(six[0], six[1], six[2], six[3], six[4], six[5]);
    }
}
