/** SINES in "Terms", as SINE and COSINE of Promise 3 answer them. */
final class BoundarySinesTest {
    private static final int MAX = Boundary.MAX;
    private static final int ONE = Boundary.ONE;
    private static final int RANGE = Boundary.RANGE;
    private static final int SINE = 7;
    private static final int COSINE = 8;

    private static final Boundary edge = new Boundary("BoundarySinesTest");

    public static void main(String[] args) {
        degrees();
        between();
        halves();
        wholeTurns();
        secondQuarter();
        lowerHalf();
        cosine();
        asAReal();
        edge.end();
    }

    private static void degrees() {
        edge.sentence("Terms, Promise 3", "the SINE of d whole degrees, 0 .. 90, is S[d] units:");
        for (int d = 0; d <= 90; d++) {
            edge.one(SINE, 1, d, 2, Model.S[d]);
            edge.one(SINE, 2, d * ONE, 2, Model.S[d]);
        }
        edge.one(SINE, 1, -1, 2, -1144);
        edge.one(SINE, 1, 91, 2, 65526);
    }

    private static final String BETWEEN =
        "Between d and d + 1, f units behind d: S[d] + ((S[d + 1] - S[d]) f / 65536 rounded).";

    /** The first and the last unit of a degree, and the first ones that come to another sine. */
    private static void between() {
        edge.sentence("Terms, Promise 3", BETWEEN);
        for (int d = 0; d < 90; d++) {
            edge.one(SINE, 2, d * ONE + 1, 2, Model.S[d]);
            edge.one(SINE, 2, (d + 1) * ONE - 1, 2, Model.S[d + 1]);
        }
        edge.one(SINE, 2, 28, 2, 0);
        edge.one(SINE, 2, 29, 2, 1);
        edge.one(SINE, 2, 85, 2, 1);
        edge.one(SINE, 2, 86, 2, 2);
        edge.one(SINE, 2, 89 * ONE + 3276, 2, 65526);
        edge.one(SINE, 2, 89 * ONE + 3277, 2, 65527);
        edge.one(SINE, 2, 90 * ONE - 3277, 2, 65535);
        edge.one(SINE, 2, 90 * ONE - 3276, 2, 65536);
    }

    /** A half goes up, before an angle below 180 degrees gives it its sign. */
    private static void halves() {
        edge.sentence("Terms, Promise 3, a half", BETWEEN);
        edge.one(SINE, 2, 4095, 2, 71);
        edge.one(SINE, 2, 4096, 2, 72);
        edge.one(SINE, 2, 4097, 2, 72);
        edge.one(SINE, 2, -4095, 2, -71);
        edge.one(SINE, 2, -4096, 2, -72);
        edge.one(SINE, 2, 180 * ONE - 4096, 2, 72);
        edge.one(SINE, 2, 180 * ONE + 4096, 2, -72);
        edge.one(SINE, 2, ONE + 32767, 2, 1715);
        edge.one(SINE, 2, ONE + 32768, 2, 1716);
        edge.one(SINE, 2, 26 * ONE + 31, 2, 28729);
        edge.one(SINE, 2, 26 * ONE + 32, 2, 28730);
        edge.one(SINE, 2, 89 * ONE + 16383, 2, 65528);
        edge.one(SINE, 2, 89 * ONE + 16384, 2, 65529);
        edge.one(COSINE, 2, ONE - 16384, 2, 65529);
        edge.one(COSINE, 2, ONE - 16383, 2, 65528);
    }

    private static void wholeTurns() {
        edge.sentence("Terms, Promise 3", "An angle is brought to 0 .. below 360 by whole turns;");
        for (int turn = -91; turn <= 90; turn++) {
            edge.one(SINE, 1, 360 * turn, 2, 0);
            edge.one(SINE, 2, 360 * turn * ONE + 29, 2, 1);
            edge.one(SINE, 2, 360 * turn * ONE - 28, 2, 0);
            edge.one(SINE, 2, 360 * turn * ONE - 29, 2, -1);
            edge.one(SINE, 1, 360 * turn + 1, 2, 1144);
            edge.one(COSINE, 1, 360 * turn, 2, ONE);
        }
        edge.one(SINE, 1, 359, 2, -1144);
        edge.one(SINE, 1, 360, 2, 0);
        edge.one(SINE, 1, 361, 2, 1144);
        // The greatest real is 91 turns and 8 degrees, less one unit: hardly less than the sine of 8 degrees.
        edge.one(SINE, 2, MAX, 2, 9121);
        edge.one(SINE, 2, MAX - 40000, 2, 8429);
        edge.one(SINE, 2, -MAX, 2, -9121);
        edge.one(SINE, 2, 40000 - MAX, 2, -8429);
    }

    private static void secondQuarter() {
        edge.sentence("Terms, Promise 3", "from 90 to 180 degrees the sine is that of 180 degrees less it,");
        edge.one(SINE, 2, 90 * ONE - 3277, 2, 65535);
        edge.one(SINE, 2, 90 * ONE - 1, 2, ONE);
        edge.one(SINE, 2, 90 * ONE, 2, ONE);
        edge.one(SINE, 2, 90 * ONE + 1, 2, ONE);
        edge.one(SINE, 2, 90 * ONE + 3277, 2, 65535);
        edge.one(SINE, 2, 180 * ONE - 29, 2, 1);
        edge.one(SINE, 2, 180 * ONE - 28, 2, 0);
        edge.one(SINE, 2, 180 * ONE, 2, 0);
        for (int d = 90; d <= 180; d++) {
            edge.one(SINE, 1, d, 2, Model.S[180 - d]);
        }
    }

    private static void lowerHalf() {
        edge.sentence("Terms, Promise 3", "from 180 on the other sign of that of 180 degrees less.");
        edge.one(SINE, 2, 180 * ONE + 28, 2, 0);
        edge.one(SINE, 2, 180 * ONE + 29, 2, -1);
        edge.one(SINE, 2, 270 * ONE - 3277, 2, -65535);
        edge.one(SINE, 2, 270 * ONE - 1, 2, -ONE);
        edge.one(SINE, 2, 270 * ONE, 2, -ONE);
        edge.one(SINE, 2, 270 * ONE + 1, 2, -ONE);
        edge.one(SINE, 2, 270 * ONE + 3277, 2, -65535);
        edge.one(SINE, 2, 360 * ONE - 29, 2, -1);
        edge.one(SINE, 2, 360 * ONE - 28, 2, 0);
        for (int d = 0; d <= 90; d++) {
            edge.one(SINE, 1, 180 + d, 2, -Model.S[d]);
            edge.one(SINE, 1, 360 - d, 2, -Model.S[d]);
        }
    }

    /** Behind the greatest real less 90 degrees the angle of the cosine lies beyond the reals; it is not refused. */
    private static void cosine() {
        edge.sentence("Terms, Promise 3", "The cosine is the sine of 90 degrees more.");
        edge.one(COSINE, 2, 0, 2, ONE);
        edge.one(COSINE, 2, 3276, 2, ONE);
        edge.one(COSINE, 2, 3277, 2, 65535);
        edge.one(COSINE, 2, -3277, 2, 65535);
        edge.one(COSINE, 2, 90 * ONE - 29, 2, 1);
        edge.one(COSINE, 2, 90 * ONE, 2, 0);
        edge.one(COSINE, 2, 90 * ONE + 29, 2, -1);
        edge.one(COSINE, 1, 180, 2, -ONE);
        edge.one(COSINE, 1, 270, 2, 0);
        edge.one(COSINE, 1, 269, 2, -1144);
        edge.one(COSINE, 1, 271, 2, 1144);
        edge.one(COSINE, 1, -90, 2, 0);
        edge.one(COSINE, 1, -91, 2, -1144);
        edge.one(COSINE, 2, MAX - 90 * ONE, 2, 9121);
        edge.one(COSINE, 2, MAX - 90 * ONE + 1, 2, 9121);
        edge.one(COSINE, 2, MAX, 2, 64898);
        edge.one(COSINE, 2, -MAX, 2, 64898);
        edge.one(COSINE, 1, 32678, 2, 9121);
        edge.one(COSINE, 1, 32677, 2, 7987);
    }

    private static void asAReal() {
        edge.sentence("Terms, Promise 3", "SINE, COSINE (of A, degrees, as a real): see below.");
        edge.one(SINE, 2, 90, 2, 2);
        edge.one(SINE, 1, 32767, 2, 7987);
        edge.oneRefused(SINE, 1, 32768, RANGE);
        edge.one(SINE, 1, -32767, 2, -7987);
        edge.oneRefused(SINE, 1, -32768, RANGE);
        edge.one(COSINE, 1, 32767, 2, 65048);
        edge.oneRefused(COSINE, 1, 32768, RANGE);
        edge.one(COSINE, 1, -32767, 2, 65048);
        edge.oneRefused(COSINE, 1, -32768, RANGE);
        edge.oneRefused(SINE, 1, 36000, RANGE);
        edge.oneRefused(COSINE, 1, 36000, RANGE);
    }
}
