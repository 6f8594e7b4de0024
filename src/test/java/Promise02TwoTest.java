/** Promise 2: the operations of two values. */
final class Promise02TwoTest {
    private static final int MAX = Integer.MAX_VALUE;
    private static final int MIN = Integer.MIN_VALUE;
    private static final int ONE = 65536;
    private static final int BAD = -1;
    private static final int RANGE = -2;
    private static final int UNDEFINED = -3;
    private static final int TYPE = -4;

    private static final Due due = new Due("Promise02TwoTest");

    public static void main(String[] args) {
        wholes();
        reals();
        divide();
        quotientAndRemainder();
        bits();
        shift();
        angle();
        bad();
        orderOfCodes();
        due.end();
    }

    private static void wholes() {
        due.two(0, 1, 3, 1, 4, 1, 7);
        due.two(0, 1, MAX, 1, MIN, 1, -1);
        due.two(0, 1, MIN + 1, 1, -1, 1, MIN);
        due.twoRefused(0, 1, MAX, 1, 1, RANGE);
        due.twoRefused(0, 1, MIN, 1, -1, RANGE);
        due.twoRefused(0, 1, MIN, 1, MIN, RANGE);
        due.two(1, 1, 3, 1, 4, 1, -1);
        due.two(1, 1, -1, 1, MIN, 1, MAX);
        due.twoRefused(1, 1, 0, 1, MIN, RANGE);
        due.twoRefused(1, 1, MIN, 1, 1, RANGE);
        due.two(2, 1, -3, 1, 4, 1, -12);
        due.two(2, 1, 65536, 1, -32768, 1, MIN);
        due.twoRefused(2, 1, 65536, 1, 32768, RANGE);
        due.twoRefused(2, 1, MIN, 1, -1, RANGE);
        due.twoRefused(2, 1, MIN, 1, MIN, RANGE);
        due.two(2, 1, 46340, 1, 46340, 1, 2147395600);
        due.twoRefused(2, 1, 46341, 1, 46341, RANGE);
    }

    private static void reals() {
        due.two(0, 1, 5, 2, 32768, 2, 360448);
        due.two(0, 2, 32768, 1, 5, 2, 360448);
        due.two(0, 2, MAX - 1, 2, 1, 2, MAX);
        due.twoRefused(0, 2, MAX, 2, 1, RANGE);
        due.two(0, 2, -MAX + 1, 2, -1, 2, -MAX);
        due.twoRefused(0, 2, -MAX, 2, -1, RANGE);
        due.two(0, 1, 32767, 2, 0, 2, 2147418112);
        due.twoRefused(0, 1, 32768, 2, -ONE, RANGE);
        due.two(0, 2, 0, 1, -32767, 2, -2147418112);
        due.twoRefused(0, 2, ONE, 1, -32768, RANGE);
        due.two(1, 2, 10, 2, 25, 2, -15);
        due.two(1, 1, 1, 2, 1, 2, 65535);
        due.two(1, 2, 1, 1, 1, 2, -65535);
        due.two(1, 2, -MAX, 2, -MAX, 2, 0);
        due.twoRefused(1, 2, -MAX, 2, 1, RANGE);
        due.twoRefused(1, 2, 0, 1, 32768, RANGE);
        due.two(2, 2, 98304, 2, -98304, 2, -147456);
        due.two(2, 2, 1, 2, 32768, 2, 1);
        due.two(2, 2, 1, 2, 32767, 2, 0);
        due.two(2, 2, -1, 2, 32768, 2, 0);
        due.two(2, 2, -1, 2, 32769, 2, -1);
        due.two(2, 2, 3, 2, 32768, 2, 2);
        due.two(2, 2, -3, 2, 32768, 2, -1);
        due.two(2, 2, MAX, 1, -1, 2, -MAX);
        due.two(2, 2, 46340 * 256, 2, 46340 * 256, 2, 2147395600);
        due.twoRefused(2, 2, 46341 * 256, 2, 46341 * 256, RANGE);
        due.twoRefused(2, 2, 1 << 24, 2, -(1 << 23), RANGE);
        due.twoRefused(2, 2, MAX, 2, MAX, RANGE);
        due.twoRefused(2, 2, 0, 1, 32768, RANGE);
    }

    private static void divide() {
        due.two(3, 1, 7, 1, 2, 2, 229376);
        due.two(3, 1, -1, 1, 3, 2, -21845);
        due.two(3, 1, 1, 1, -3, 2, -21845);
        due.two(3, 1, 2, 1, 3, 2, 43691);
        due.two(3, 1, -2, 1, 3, 2, -43691);
        due.two(3, 2, 1, 1, 2, 2, 1);
        due.two(3, 2, -1, 1, 2, 2, 0);
        due.two(3, 2, 1, 1, -2, 2, 0);
        due.two(3, 2, -1, 1, -2, 2, 1);
        due.two(3, 2, -3, 1, 2, 2, -1);
        due.two(3, 2, MAX, 1, -1, 2, -MAX);
        due.two(3, 2, 32767, 2, 1, 2, 2147418112);
        due.twoRefused(3, 2, 32768, 2, 1, RANGE);
        due.twoRefused(3, 2, 32768, 2, -1, RANGE);
        due.twoRefused(3, 2, MAX, 2, 1, RANGE);
        due.two(3, 2, MAX, 2, MAX, 2, ONE);
        due.two(3, 2, MAX, 2, -MAX, 2, -ONE);
        due.two(3, 1, 0, 2, -5, 2, 0);
        due.twoRefused(3, 1, 0, 1, 0, UNDEFINED);
        due.twoRefused(3, 2, MAX, 2, 0, UNDEFINED);
        due.twoRefused(3, 1, 32768, 1, 0, RANGE);
        due.twoRefused(3, 1, 1, 1, 32768, RANGE);
        due.twoRefused(3, 1, -32768, 1, 1, RANGE);
        due.two(3, 1, -32767, 1, 32767, 2, -ONE);
    }

    private static void quotientAndRemainder() {
        due.two(4, 1, 7, 1, 2, 1, 3);
        due.two(4, 1, -7, 1, 2, 1, -3);
        due.two(4, 1, 7, 1, -2, 1, -3);
        due.two(4, 1, MIN, 1, 1, 1, MIN);
        due.two(4, 1, MAX, 1, MIN, 1, 0);
        due.twoRefused(4, 1, MIN, 1, -1, RANGE);
        due.twoRefused(4, 1, 5, 1, 0, UNDEFINED);
        due.twoRefused(4, 2, 5, 1, 2, TYPE);
        due.twoRefused(4, 1, 5, 2, 2, TYPE);
        due.two(5, 1, 7, 1, 2, 1, 1);
        due.two(5, 1, -7, 1, 2, 1, -1);
        due.two(5, 1, 7, 1, -2, 1, 1);
        due.two(5, 1, MIN, 1, -1, 1, 0);
        due.two(5, 1, MAX, 1, MIN, 1, MAX);
        due.twoRefused(5, 1, MIN, 1, 0, UNDEFINED);
        due.twoRefused(5, 2, 5, 1, 2, TYPE);
        due.twoRefused(5, 1, 5, 2, 2, TYPE);
    }

    private static void bits() {
        due.two(7, 1, 12, 1, 10, 1, 8);
        due.two(7, 1, -1, 1, MIN, 1, MIN);
        due.two(8, 1, 12, 1, 10, 1, 14);
        due.two(8, 1, MAX, 1, MIN, 1, -1);
        due.two(9, 1, 12, 1, 10, 1, 6);
        due.two(9, 1, -1, 1, MAX, 1, MIN);
        for (int what = 7; what <= 10; what++) {
            due.twoRefused(what, 2, 12, 1, 10, TYPE);
            due.twoRefused(what, 1, 12, 2, 10, TYPE);
            due.twoRefused(what, 2, 12, 2, 10, TYPE);
        }
    }

    private static void shift() {
        due.two(10, 1, 5, 1, 0, 1, 5);
        due.two(10, 1, -5, 1, 0, 1, -5);
        due.two(10, 1, 5, 1, 3, 1, 40);
        due.two(10, 1, 3, 1, 31, 1, MIN);
        due.two(10, 1, 2, 1, 31, 1, 0);
        due.two(10, 1, -5, 1, 32, 1, 0);
        due.two(10, 1, 5, 1, 33, 1, 0);
        due.two(10, 1, 5, 1, MAX, 1, 0);
        due.two(10, 1, 40, 1, -3, 1, 5);
        due.two(10, 1, -1, 1, -1, 1, MAX);
        due.two(10, 1, MIN, 1, -31, 1, 1);
        due.two(10, 1, -1, 1, -32, 1, 0);
        due.two(10, 1, -1, 1, -33, 1, 0);
        due.two(10, 1, -1, 1, MIN, 1, 0);
    }

    private static void angle() {
        due.twoRefused(6, 1, 0, 1, 0, UNDEFINED);
        due.twoRefused(6, 2, 0, 1, 0, UNDEFINED);
        due.two(6, 1, 0, 1, 5, 2, 0);
        due.two(6, 1, 1, 1, 1, 2, 45 * ONE);
        due.two(6, 1, 5, 1, 0, 2, 90 * ONE);
        due.two(6, 1, 1, 1, -1, 2, 135 * ONE);
        due.two(6, 1, 0, 1, -5, 2, 180 * ONE);
        due.two(6, 1, -1, 1, -1, 2, 225 * ONE);
        due.two(6, 1, -5, 1, 0, 2, 270 * ONE);
        due.two(6, 1, -1, 1, 1, 2, 315 * ONE);
        due.two(6, 1, 1, 2, ONE, 2, 45 * ONE);
        due.two(6, 2, 1, 2, MAX, 2, 28);
        due.two(6, 2, -1, 2, MAX, 2, 360 * ONE - 28);
        due.two(6, 2, MAX, 2, 1, 2, 90 * ONE - 29);
        // Along many angles x sin - y cos comes to one unit of units, or to one below 0, and not to 0.
        due.two(6, 2, 2, 2, 1, 2, 4157280);
        due.two(6, 2, 5, 2, 1, 2, 5157028);
        due.two(6, 2, 1, 2, 2, 2, 1740959);
        due.two(6, 1, 32767, 2, 0, 2, 90 * ONE);
        due.twoRefused(6, 1, 32768, 1, 1, RANGE);
        due.twoRefused(6, 1, 1, 1, -32768, RANGE);
        due.twoRefused(6, 1, 0, 1, 32768, RANGE);
    }

    private static void bad() {
        due.twoRefused(-1, 1, 1, 1, 1, BAD);
        due.twoRefused(11, 1, 1, 1, 1, BAD);
        due.twoRefused(MIN, 1, 1, 1, 1, BAD);
        due.twoRefused(MAX, 1, 1, 1, 1, BAD);
        for (int kind : new int[] {MIN, -1, 0, 3, MAX}) {
            due.twoRefused(0, kind, 1, 1, 1, BAD);
            due.twoRefused(0, 1, 1, kind, 1, BAD);
        }
        for (int what = 0; what <= 10; what++) {
            due.twoRefused(what, 2, MIN, 1, 1, BAD);
            due.twoRefused(what, 1, 1, 2, MIN, BAD);
        }
        due.two(0, 1, MIN, 1, 0, 1, MIN);
    }

    private static void orderOfCodes() {
        due.twoRefused(4, 2, MIN, 1, 0, BAD);
        due.twoRefused(4, 2, 5, 1, 0, TYPE);
        due.twoRefused(5, 1, MIN, 2, 0, TYPE);
        due.twoRefused(10, 1, MAX, 2, 0, TYPE);
        due.twoRefused(3, 1, MAX, 2, 0, RANGE);
        due.twoRefused(3, 2, 1, 1, MIN, RANGE);
        due.twoRefused(6, 1, MAX, 3, 0, BAD);
    }
}
