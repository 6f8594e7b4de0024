/** The ANGLE of a point in "Terms", as operation 6 of Promise 2 answers it. */
final class BoundaryAngleTest {
    private static final int MAX = Boundary.MAX;
    private static final int ONE = Boundary.ONE;
    private static final int HALF_TURN = 180 * ONE;
    private static final int FULL_TURN = 360 * ONE;

    /** Sizes x and y, in units, with the angle of the first quarter. */
    private static final int[][] POINTS = {
        {1, 1, 45 * ONE}, {1, 2, 4157280}, {2, 1, 1740959}, {3, 1, 1208153}, {1, 3, 4690086},
        {4, 3, 2416282}, {3, 4, 3481958}, {5, 1, 741211}, {1, 5, 5157028}, {1, 1000, 5894487},
        {MAX, 1, 28}, {1, MAX, 5898211}, {MAX, 2, 28}, {MAX, MAX, 45 * ONE},
        {MAX, MAX - 1, 2949079}, {MAX - 1, MAX, 2949160}};

    private static final Boundary edge = new Boundary("BoundaryAngleTest");

    public static void main(String[] args) {
        leftOfTheAxis();
        belowTheAxis();
        onTheAxes();
        middleOfMany();
        middleOfTwo();
        edge.end();
    }

    /** ANGLE of (x, y): y is A, x is B. */
    private static void angle(int x, int y, int due) {
        edge.two(6, 2, y, 2, x, 2, due);
    }

    private static void leftOfTheAxis() {
        edge.sentence("Terms, Promise 2", "The ANGLE of a point is that of its first quarter brought to the right one"
            + " (x below 0: 180 degrees less it;");
        for (int[] point : POINTS) {
            angle(point[0], point[1], point[2]);
            angle(-point[0], point[1], HALF_TURN - point[2]);
        }
        angle(1, MAX, 5898211);
        angle(0, MAX, 90 * ONE);
        angle(-1, MAX, 5898269);
    }

    private static void belowTheAxis() {
        edge.sentence("Terms, Promise 2", "then, y below 0: 360 degrees less it, if it is not 0)");
        for (int[] point : POINTS) {
            angle(point[0], -point[1], FULL_TURN - point[2]);
            angle(-point[0], -point[1], HALF_TURN + point[2]);
        }
        angle(MAX, 1, 28);
        angle(MAX, 0, 0);
        angle(MAX, -1, FULL_TURN - 28);
        angle(-MAX, 1, HALF_TURN - 28);
        angle(-MAX, 0, HALF_TURN);
        angle(-MAX, -1, HALF_TURN + 28);
    }

    private static void onTheAxes() {
        edge.sentence("Terms, Promise 2", "for sizes x and y, 0 when y is 0, 90 degrees when x is 0;");
        for (int size : new int[] {1, 2, ONE, MAX - 1, MAX}) {
            angle(size, 0, 0);
            angle(-size, 0, HALF_TURN);
            angle(0, size, 90 * ONE);
            angle(0, -size, 270 * ONE);
        }
        angle(1, -MAX, FULL_TURN - 5898211);
        angle(-1, -MAX, HALF_TURN + 5898211);
    }

    private static final String MIDDLE = "otherwise, of reals a of 0 .. 90 degrees, the middle (rounded down in units)"
        + " of the least one with x sin(a) not below y cos(a) and the greatest one with x sin(a) not above y cos(a),"
        + " by exact products of the units.";

    /** Several angles bring both products to the same: from the least one to the greatest, as shown. */
    private static void middleOfMany() {
        edge.sentence("Terms, Promise 2, several angles", MIDDLE);
        // 29 .. 85
        angle(65536, 1, 57);
        // 5898155 .. 5898211
        angle(1, 65536, 5898183);
        // 65508 .. 65564
        angle(65526, 1144, ONE);
        // 2949080 .. 2949160
        angle(1, 1, 45 * ONE);
        // 1966048 .. 1966113: the middle is a half, which goes down
        angle(56756, 32768, 1966080);
        // 1966022 .. 1966047: likewise
        angle(56756, 32767, 1966034);
        // 3932127 .. 3932192: likewise, and down before it is brought to another quarter
        angle(32768, 56756, 3932159);
        angle(-32768, 56756, HALF_TURN - 3932159);
        angle(32768, -56756, FULL_TURN - 3932159);
        angle(-32768, -56756, HALF_TURN + 3932159);
    }

    /** No angle brings them to the same: the least one stands one unit above the greatest, and the middle is that. */
    private static void middleOfTwo() {
        edge.sentence("Terms, Promise 2, no such angle", MIDDLE);
        angle(65535, 1, 85);
        angle(65537, 1, 28);
        angle(1, 65535, 5898154);
        angle(1, 65537, 5898211);
        angle(56755, 32768, 1966113);
        angle(MAX, MAX - 1, 2949079);
        angle(MAX - 1, MAX, 2949160);
        angle(MAX, 1, 28);
        angle(1, MAX, 5898211);
    }
}
