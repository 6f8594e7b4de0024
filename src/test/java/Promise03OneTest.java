/** Promise 3: the operations of one value. */
final class Promise03OneTest {
    private static final int MAX = Integer.MAX_VALUE;
    private static final int MIN = Integer.MIN_VALUE;
    private static final int ONE = 65536;
    private static final int BAD = -1;
    private static final int RANGE = -2;
    private static final int UNDEFINED = -3;
    private static final int TYPE = -4;

    private static final Due due = new Due("Promise03OneTest");

    public static void main(String[] args) {
        negateAndSize();
        wholesStay();
        cuts();
        root();
        wholeDegrees();
        betweenDegrees();
        turns();
        otherKind();
        not();
        bad();
        due.end();
    }

    private static void negateAndSize() {
        due.one(0, 1, 5, 1, -5);
        due.one(0, 1, MAX, 1, -MAX);
        due.oneRefused(0, 1, MIN, RANGE);
        due.one(0, 2, 5, 2, -5);
        due.one(0, 2, -MAX, 2, MAX);
        due.one(1, 1, 5, 1, 5);
        due.one(1, 1, -5, 1, 5);
        due.oneRefused(1, 1, MIN, RANGE);
        due.one(1, 2, -MAX, 2, MAX);
        due.one(1, 2, 0, 2, 0);
    }

    private static void wholesStay() {
        for (int what = 2; what <= 5; what++) {
            due.one(what, 1, 0, 1, 0);
            due.one(what, 1, -7, 1, -7);
            due.one(what, 1, MAX, 1, MAX);
            due.one(what, 1, MIN, 1, MIN);
        }
        for (int what = 2; what <= 5; what++) {
            due.one(what, 2, 0, 2, 0);
            due.one(what, 2, -3 * ONE, 2, -3 * ONE);
            due.one(what, 2, 32767 * ONE, 2, 32767 * ONE);
            due.one(what, 2, -32767 * ONE, 2, -32767 * ONE);
        }
    }

    private static void cuts() {
        due.one(2, 2, 1, 2, ONE);
        due.one(2, 2, -1, 2, 0);
        due.one(2, 2, 98304, 2, 2 * ONE);
        due.one(2, 2, -98304, 2, -ONE);
        due.one(2, 2, -MAX, 2, -32767 * ONE);
        due.oneRefused(2, 2, 32767 * ONE + 1, RANGE);
        due.oneRefused(2, 2, MAX, RANGE);
        due.one(3, 2, 1, 2, 0);
        due.one(3, 2, -1, 2, -ONE);
        due.one(3, 2, MAX, 2, 32767 * ONE);
        due.oneRefused(3, 2, -32767 * ONE - 1, RANGE);
        due.oneRefused(3, 2, -MAX, RANGE);
        due.one(4, 2, 32767, 2, 0);
        due.one(4, 2, 32768, 2, ONE);
        due.one(4, 2, -32768, 2, 0);
        due.one(4, 2, -32769, 2, -ONE);
        due.one(4, 2, 32767 * ONE + 32767, 2, 32767 * ONE);
        due.oneRefused(4, 2, 32767 * ONE + 32768, RANGE);
        due.one(4, 2, -32767 * ONE - 32768, 2, -32767 * ONE);
        due.oneRefused(4, 2, -32767 * ONE - 32769, RANGE);
        due.one(5, 2, 65535, 2, 0);
        due.one(5, 2, -65535, 2, 0);
        due.one(5, 2, -98304, 2, -ONE);
        due.one(5, 2, MAX, 2, 32767 * ONE);
        due.one(5, 2, -MAX, 2, -32767 * ONE);
    }

    private static void root() {
        due.one(6, 1, 0, 2, 0);
        due.one(6, 1, 1, 2, ONE);
        due.one(6, 1, 4, 2, 2 * ONE);
        due.one(6, 1, 2, 2, 92681);
        due.one(6, 2, 1, 2, 256);
        due.one(6, 2, 2, 2, 362);
        due.one(6, 2, MAX, 2, 11863283);
        due.one(6, 1, 32767, 2, 11863102);
        due.oneRefused(6, 1, 32768, RANGE);
        due.oneRefused(6, 1, MIN, RANGE);
        due.oneRefused(6, 1, -32768, RANGE);
        due.oneRefused(6, 1, -32767, UNDEFINED);
        due.oneRefused(6, 1, -1, UNDEFINED);
        due.oneRefused(6, 2, -1, UNDEFINED);
        due.oneRefused(6, 2, -MAX, UNDEFINED);
    }

    /** The document's table in all four quarters, on both sides of 0. */
    private static void wholeDegrees() {
        for (int d = 0; d <= 90; d++) {
            due.one(7, 1, d, 2, Model.S[d]);
            due.one(7, 2, d * ONE, 2, Model.S[d]);
            due.one(7, 1, 180 - d, 2, Model.S[d]);
            due.one(7, 1, 180 + d, 2, -Model.S[d]);
            due.one(7, 1, 360 - d, 2, -Model.S[d]);
            due.one(7, 1, -d, 2, -Model.S[d]);
            due.one(8, 1, 90 - d, 2, Model.S[d]);
            due.one(8, 1, 90 + d, 2, -Model.S[d]);
            due.one(8, 1, 270 - d, 2, -Model.S[d]);
            due.one(8, 1, 270 + d, 2, Model.S[d]);
        }
    }

    private static void betweenDegrees() {
        due.one(7, 2, 28, 2, 0);
        due.one(7, 2, 29, 2, 1);
        due.one(7, 2, -28, 2, 0);
        due.one(7, 2, -29, 2, -1);
        due.one(7, 2, 32768, 2, 572);
        due.one(7, 2, 45 * ONE + 32768, 2, 46742);
        due.one(7, 2, 89 * ONE + 32768, 2, 65531);
        due.one(7, 2, 90 * ONE - 1, 2, 65536);
        due.one(7, 2, 180 * ONE - 32768, 2, 572);
        due.one(7, 2, 180 * ONE + 32768, 2, -572);
        due.one(7, 2, 360 * ONE - 32768, 2, -572);
        due.one(8, 2, 32768, 2, 65531);
        due.one(8, 2, 90 * ONE - 29, 2, 1);
        due.one(8, 2, 90 * ONE + 29, 2, -1);
    }

    private static void turns() {
        due.one(7, 1, 390, 2, 32768);
        due.one(7, 1, -330, 2, 32768);
        due.one(7, 1, 32767, 2, 7987);
        due.one(7, 1, -32767, 2, -7987);
        due.one(8, 1, 32760, 2, 65536);
        due.one(8, 1, 32767, 2, 65048);
        due.one(8, 1, -32767, 2, 65048);
        due.oneRefused(7, 1, 32768, RANGE);
        due.oneRefused(8, 1, -32768, RANGE);
        due.oneRefused(8, 1, MAX, RANGE);
        due.one(8, 2, MAX, 2, (int) Model.sine((long) MAX + 90L * ONE));
        due.one(7, 2, -MAX, 2, (int) Model.sine(-(long) MAX));
    }

    private static void otherKind() {
        due.one(9, 1, MIN, 1, MIN);
        due.one(9, 2, 98305, 1, 1);
        due.one(9, 2, -98305, 1, -1);
        due.one(9, 2, -65535, 1, 0);
        due.one(9, 2, MAX, 1, 32767);
        due.one(9, 2, -MAX, 1, -32767);
        due.one(10, 1, 3, 2, 3 * ONE);
        due.one(10, 1, 32767, 2, 32767 * ONE);
        due.one(10, 1, -32767, 2, -32767 * ONE);
        due.oneRefused(10, 1, 32768, RANGE);
        due.oneRefused(10, 1, -32768, RANGE);
        due.oneRefused(10, 1, MIN, RANGE);
        due.one(10, 2, -MAX, 2, -MAX);
    }

    private static void not() {
        due.one(11, 1, 0, 1, -1);
        due.one(11, 1, 5, 1, -6);
        due.one(11, 1, MAX, 1, MIN);
        due.one(11, 1, MIN, 1, MAX);
        due.oneRefused(11, 2, 0, TYPE);
    }

    private static void bad() {
        due.oneRefused(-1, 1, 1, BAD);
        due.oneRefused(12, 1, 1, BAD);
        due.oneRefused(MIN, 1, 1, BAD);
        due.oneRefused(MAX, 1, 1, BAD);
        for (int what = 0; what <= 11; what++) {
            due.oneRefused(what, 0, 1, BAD);
            due.oneRefused(what, 3, 1, BAD);
            due.oneRefused(what, -1, 1, BAD);
            due.oneRefused(what, 2, MIN, BAD);
        }
    }
}
