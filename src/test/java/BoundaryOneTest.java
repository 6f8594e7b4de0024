/** Promise 3: the operations of one value, each at the ends that its words in "Terms" name. */
final class BoundaryOneTest {
    private static final int MAX = Boundary.MAX;
    private static final int MIN = Boundary.MIN;
    private static final int ONE = Boundary.ONE;
    private static final int BAD = Boundary.BAD;
    private static final int RANGE = Boundary.RANGE;
    private static final int UNDEFINED = Boundary.UNDEFINED;
    private static final int TYPE = Boundary.TYPE;
    private static final int LAST = 32767 * ONE;

    private static final Boundary edge = new Boundary("BoundaryOneTest");

    public static void main(String[] args) {
        negateAndSize();
        ceiling();
        floor();
        round();
        truncate();
        wholesAreWhole();
        root();
        rootBelowNothing();
        toWhole();
        toReal();
        not();
        noOperation();
        noKindOrNumber();
        edge.end();
    }

    private static void negateAndSize() {
        edge.sentence("Terms, Promise 3", "NEGATE, SIZE (of A): of the same kind.");
        for (int kind = 1; kind <= 2; kind++) {
            edge.one(0, kind, 0, kind, 0);
            edge.one(0, kind, 1, kind, -1);
            edge.one(0, kind, MAX, kind, -MAX);
            edge.one(0, kind, -MAX, kind, MAX);
            edge.one(1, kind, 0, kind, 0);
            edge.one(1, kind, -1, kind, 1);
            edge.one(1, kind, MAX, kind, MAX);
            edge.one(1, kind, -MAX, kind, MAX);
        }
        edge.oneRefused(0, 1, MIN, RANGE);
        edge.oneRefused(1, 1, MIN, RANGE);
    }

    private static final String CUT = "CEILING, FLOOR, ROUND, TRUNCATE (of A): the least whole number not below it,"
        + " the greatest not above it, that of its half more, that towards 0: of the same kind.";

    private static void ceiling() {
        edge.sentence("Terms, Promise 3, CEILING", CUT);
        edge.one(2, 2, 0, 2, 0);
        edge.one(2, 2, 1, 2, ONE);
        edge.one(2, 2, -1, 2, 0);
        edge.one(2, 2, ONE - 1, 2, ONE);
        edge.one(2, 2, ONE, 2, ONE);
        edge.one(2, 2, ONE + 1, 2, 2 * ONE);
        edge.one(2, 2, -ONE + 1, 2, 0);
        edge.one(2, 2, -ONE, 2, -ONE);
        edge.one(2, 2, -ONE - 1, 2, -ONE);
        edge.one(2, 2, LAST - 1, 2, LAST);
        edge.one(2, 2, LAST, 2, LAST);
        edge.oneRefused(2, 2, LAST + 1, RANGE);
        edge.oneRefused(2, 2, MAX, RANGE);
        edge.one(2, 2, -MAX, 2, -LAST);
    }

    private static void floor() {
        edge.sentence("Terms, Promise 3, FLOOR", CUT);
        edge.one(3, 2, 0, 2, 0);
        edge.one(3, 2, 1, 2, 0);
        edge.one(3, 2, -1, 2, -ONE);
        edge.one(3, 2, ONE - 1, 2, 0);
        edge.one(3, 2, ONE, 2, ONE);
        edge.one(3, 2, ONE + 1, 2, ONE);
        edge.one(3, 2, -ONE + 1, 2, -ONE);
        edge.one(3, 2, -ONE, 2, -ONE);
        edge.one(3, 2, -ONE - 1, 2, -2 * ONE);
        edge.one(3, 2, -LAST + 1, 2, -LAST);
        edge.one(3, 2, -LAST, 2, -LAST);
        edge.oneRefused(3, 2, -LAST - 1, RANGE);
        edge.oneRefused(3, 2, -MAX, RANGE);
        edge.one(3, 2, MAX, 2, LAST);
    }

    private static void round() {
        edge.sentence("Terms, Promise 3, ROUND", CUT);
        edge.one(4, 2, 0, 2, 0);
        edge.one(4, 2, 32767, 2, 0);
        edge.one(4, 2, 32768, 2, ONE);
        edge.one(4, 2, 32769, 2, ONE);
        edge.one(4, 2, -32767, 2, 0);
        edge.one(4, 2, -32768, 2, 0);
        edge.one(4, 2, -32769, 2, -ONE);
        edge.one(4, 2, ONE + 32767, 2, ONE);
        edge.one(4, 2, ONE + 32768, 2, 2 * ONE);
        edge.one(4, 2, -ONE - 32768, 2, -ONE);
        edge.one(4, 2, -ONE - 32769, 2, -2 * ONE);
        edge.one(4, 2, LAST + 32767, 2, LAST);
        edge.oneRefused(4, 2, LAST + 32768, RANGE);
        edge.oneRefused(4, 2, MAX, RANGE);
        edge.one(4, 2, -LAST - 32768, 2, -LAST);
        edge.oneRefused(4, 2, -LAST - 32769, RANGE);
        edge.oneRefused(4, 2, -MAX, RANGE);
    }

    private static void truncate() {
        edge.sentence("Terms, Promise 3, TRUNCATE", CUT);
        edge.one(5, 2, 0, 2, 0);
        edge.one(5, 2, 1, 2, 0);
        edge.one(5, 2, -1, 2, 0);
        edge.one(5, 2, ONE - 1, 2, 0);
        edge.one(5, 2, ONE, 2, ONE);
        edge.one(5, 2, ONE + 1, 2, ONE);
        edge.one(5, 2, -ONE + 1, 2, 0);
        edge.one(5, 2, -ONE, 2, -ONE);
        edge.one(5, 2, -ONE - 1, 2, -ONE);
        edge.one(5, 2, MAX, 2, LAST);
        edge.one(5, 2, -MAX, 2, -LAST);
        edge.one(5, 2, LAST - 1, 2, LAST - ONE);
        edge.one(5, 2, -LAST + 1, 2, ONE - LAST);
    }

    private static void wholesAreWhole() {
        edge.sentence("Terms, Promise 3, of a whole number", CUT);
        for (int what = 2; what <= 5; what++) {
            for (int a : new int[] {MIN, MIN + 1, -32769, -1, 0, 1, 32768, 65535, MAX - 1, MAX}) {
                edge.one(what, 1, a, 1, a);
            }
        }
    }

    /** 11863283 units is the root of the greatest real: its square is between 2147483574 and 2147483575 units. */
    private static void root() {
        edge.sentence("Terms, Promise 3", "ROOT (of A, as a real): the greatest real whose square is not above it;");
        edge.one(6, 2, 0, 2, 0);
        edge.one(6, 2, 1, 2, 256);
        edge.one(6, 2, 2, 2, 362);
        edge.one(6, 2, 3, 2, 443);
        edge.one(6, 2, 4, 2, 512);
        edge.one(6, 2, 5, 2, 572);
        edge.one(6, 2, ONE - 1, 2, ONE - 1);
        edge.one(6, 2, ONE, 2, ONE);
        edge.one(6, 2, ONE + 1, 2, ONE);
        edge.one(6, 2, 4 * ONE - 1, 2, 2 * ONE - 1);
        edge.one(6, 2, 4 * ONE, 2, 2 * ONE);
        edge.one(6, 2, 4 * ONE + 1, 2, 2 * ONE);
        edge.one(6, 2, 2147483574, 2, 11863282);
        edge.one(6, 2, 2147483575, 2, 11863283);
        edge.one(6, 2, MAX, 2, 11863283);
        edge.one(6, 1, 0, 2, 0);
        edge.one(6, 1, 1, 2, ONE);
        edge.one(6, 1, 181 * 181, 2, 181 * ONE);
        edge.one(6, 1, 32767, 2, 11863102);
    }

    private static void rootBelowNothing() {
        edge.sentence("Terms, Promise 3", "UNDEFINED below 0.");
        edge.oneRefused(6, 2, -1, UNDEFINED);
        edge.oneRefused(6, 2, -MAX, UNDEFINED);
        edge.oneRefused(6, 1, -1, UNDEFINED);
        edge.oneRefused(6, 1, -32767, UNDEFINED);
        edge.oneRefused(6, 1, -32768, RANGE);
        edge.one(6, 2, 0, 2, 0);
    }

    private static void toWhole() {
        edge.sentence("Terms, Promise 3", "TO WHOLE (of A): towards 0.");
        edge.one(9, 2, 0, 1, 0);
        edge.one(9, 2, 1, 1, 0);
        edge.one(9, 2, -1, 1, 0);
        edge.one(9, 2, ONE - 1, 1, 0);
        edge.one(9, 2, ONE, 1, 1);
        edge.one(9, 2, ONE + 1, 1, 1);
        edge.one(9, 2, 1 - ONE, 1, 0);
        edge.one(9, 2, -ONE, 1, -1);
        edge.one(9, 2, -ONE - 1, 1, -1);
        edge.one(9, 2, LAST - 1, 1, 32766);
        edge.one(9, 2, LAST, 1, 32767);
        edge.one(9, 2, MAX, 1, 32767);
        edge.one(9, 2, -MAX, 1, -32767);
        edge.one(9, 1, MIN, 1, MIN);
        edge.one(9, 1, MAX, 1, MAX);
    }

    private static void toReal() {
        edge.sentence("Terms, Promise 3", "TO REAL (of A): as a real.");
        edge.one(10, 1, 0, 2, 0);
        edge.one(10, 1, -1, 2, -ONE);
        edge.one(10, 1, 32767, 2, LAST);
        edge.oneRefused(10, 1, 32768, RANGE);
        edge.one(10, 1, -32767, 2, -LAST);
        edge.oneRefused(10, 1, -32768, RANGE);
        edge.oneRefused(10, 1, 65536, RANGE);
        edge.oneRefused(10, 1, MIN, RANGE);
        edge.one(10, 2, MAX, 2, MAX);
        edge.one(10, 2, -MAX, 2, -MAX);
    }

    private static void not() {
        edge.sentence("Terms, Promise 3", "NOT (of A)");
        edge.one(11, 1, 0, 1, -1);
        edge.one(11, 1, -1, 1, 0);
        edge.one(11, 1, MAX, 1, MIN);
        edge.one(11, 1, MIN, 1, MAX);
        edge.oneRefused(11, 2, 0, TYPE);
        edge.oneRefused(11, 2, MAX, TYPE);
        edge.oneRefused(11, 2, -MAX, TYPE);
    }

    private static void noOperation() {
        edge.sentence("Promise 3", "likewise");
        edge.one(0, 1, 5, 1, -5);
        edge.one(11, 1, 5, 1, -6);
        for (int what : new int[] {MIN, -2, -1, 12, 13, MAX}) {
            edge.oneRefused(what, 1, 5, BAD);
            edge.oneRefused(what, 2, 5, BAD);
        }
    }

    private static void noKindOrNumber() {
        edge.sentence("Promise 3, no such kind or number", "likewise");
        for (int what = 0; what <= 11; what++) {
            for (int kind : new int[] {0, 3}) {
                edge.oneRefused(what, kind, 5, BAD);
                edge.oneRefused(what, kind, MIN, BAD);
            }
            edge.oneRefused(what, 2, MIN, BAD);
        }
    }
}
