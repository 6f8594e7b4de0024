/** The last sentence of "Terms": which of several codes comes first, and that a call with a code changes nothing. */
final class BoundaryCodesTest {
    private static final int MAX = Boundary.MAX;
    private static final int MIN = Boundary.MIN;
    private static final int ONE = Boundary.ONE;
    private static final int BAD = Boundary.BAD;
    private static final int RANGE = Boundary.RANGE;
    private static final int UNDEFINED = Boundary.UNDEFINED;
    private static final int TYPE = Boundary.TYPE;
    private static final int[] NO_INVERSE = {0, 0, 0, 0, MAX, MAX};
    private static final int[] WIDE = {MAX, MAX, MAX, MAX, MAX, MAX};

    private static final Boundary edge = new Boundary("BoundaryCodesTest");

    public static void main(String[] args) {
        badFirst();
        badBeforeRange();
        badBeforeUndefined();
        thenType();
        thenRangeAsAReal();
        thenUndefined();
        changesNothing();
        goesOnAfterCodes();
        edge.end();
    }

    private static void badFirst() {
        edge.sentence("Terms, Promises 2, 3", "Of several codes BAD comes first, then TYPE");
        for (int what : new int[] {4, 5, 7, 8, 9, 10}) {
            edge.twoRefused(what, 2, MIN, 1, 1, BAD);
            edge.twoRefused(what, 1, 1, 2, MIN, BAD);
            edge.twoRefused(what, 2, 1, 3, 1, BAD);
            edge.twoRefused(what, 0, 1, 2, 1, BAD);
            edge.twoRefused(what, 2, 1, 2, 1, TYPE);
        }
        edge.oneRefused(11, 2, MIN, BAD);
        edge.oneRefused(11, 3, 1, BAD);
        edge.oneRefused(12, 2, 1, BAD);
        edge.oneRefused(11, 2, 1, TYPE);
    }

    private static void badBeforeRange() {
        edge.sentence("Terms, Promises 2, 3, 9, 11", "Of several codes BAD comes first");
        for (int what : new int[] {0, 1, 2, 3, 6}) {
            edge.twoRefused(what, 1, 32768, 2, MIN, BAD);
            edge.twoRefused(what, 2, MIN, 1, 32768, BAD);
            edge.twoRefused(what, 1, 32768, 3, 1, BAD);
            edge.twoRefused(what, 0, 1, 1, 32768, BAD);
            edge.twoRefused(what, 1, 32768, 2, 1, RANGE);
        }
        edge.twoRefused(11, 1, 32768, 2, 1, BAD);
        edge.twoRefused(0, 1, MAX, 3, MAX, BAD);
        edge.twoRefused(-1, 1, MAX, 1, MAX, BAD);
        edge.oneRefused(12, 1, 32768, BAD);
        edge.oneRefused(0, 3, MIN, BAD);
        edge.beforeRefused(Boundary.six(MAX, MAX, MAX, MAX, MAX, MIN), WIDE, BAD);
        edge.beforeRefused(Boundary.six(MIN, MAX, MAX, MAX, MAX, MAX), WIDE, BAD);
        edge.moveRefused(WIDE, MAX, MIN, true, BAD);
        edge.moveRefused(WIDE, MIN, MAX, true, BAD);
    }

    private static void badBeforeUndefined() {
        edge.sentence("Terms, Promises 2, 3, before UNDEFINED", "Of several codes BAD comes first");
        edge.twoRefused(3, 2, MIN, 1, 0, BAD);
        edge.twoRefused(3, 3, 1, 1, 0, BAD);
        edge.twoRefused(4, 0, 1, 1, 0, BAD);
        edge.twoRefused(5, 3, 1, 1, 0, BAD);
        edge.twoRefused(6, 3, 0, 1, 0, BAD);
        edge.twoRefused(6, 1, 0, 0, 0, BAD);
        edge.twoRefused(11, 1, 0, 1, 0, BAD);
        edge.oneRefused(6, 2, MIN, BAD);
        edge.oneRefused(6, 3, -1, BAD);
    }

    private static void thenType() {
        edge.sentence("Terms, Promise 2", "then TYPE, then RANGE of a value as a real, then UNDEFINED");
        for (int what : new int[] {4, 5}) {
            edge.twoRefused(what, 2, 1, 1, 0, TYPE);
            edge.twoRefused(what, 1, 1, 2, 0, TYPE);
            edge.twoRefused(what, 2, 0, 2, 0, TYPE);
            edge.twoRefused(what, 1, MIN, 2, -ONE, TYPE);
            edge.twoRefused(what, 1, 1, 1, 0, UNDEFINED);
        }
        for (int what : new int[] {4, 5, 7, 8, 9, 10}) {
            edge.twoRefused(what, 1, 32768, 2, 1, TYPE);
            edge.twoRefused(what, 2, 1, 1, 32768, TYPE);
            edge.twoRefused(what, 1, MIN, 2, 0, TYPE);
        }
    }

    private static void thenRangeAsAReal() {
        edge.sentence("Terms, Promises 2, 3", "then RANGE of a value as a real, then UNDEFINED");
        edge.twoRefused(3, 1, 32768, 1, 0, RANGE);
        edge.twoRefused(3, 1, 32768, 2, 0, RANGE);
        edge.twoRefused(3, 1, -32768, 1, 0, RANGE);
        edge.twoRefused(3, 1, MIN, 2, 0, RANGE);
        edge.twoRefused(3, 1, 32767, 1, 0, UNDEFINED);
        edge.oneRefused(6, 1, -32768, RANGE);
        edge.oneRefused(6, 1, MIN, RANGE);
        edge.oneRefused(6, 1, -32767, UNDEFINED);
    }

    private static void thenUndefined() {
        edge.sentence("Terms, Promises 2, 10", "then UNDEFINED, then RANGE of what comes out;");
        edge.twoRefused(3, 2, MAX, 2, 0, UNDEFINED);
        edge.twoRefused(3, 2, MAX, 2, 1, RANGE);
        edge.twoRefused(4, 1, MIN, 1, 0, UNDEFINED);
        edge.twoRefused(4, 1, MIN, 1, -1, RANGE);
        edge.invertRefused(NO_INVERSE, UNDEFINED);
        edge.invertRefused(Boundary.six(1, 0, 0, 1, MAX, MAX), RANGE);
        edge.invertRefused(WIDE, UNDEFINED);
    }

    private static final String NOTHING = "a call that answers one of these changes nothing.";

    /** Every code of every call, one behind the other, on one plane. */
    private static void changesNothing() {
        edge.sentence("Terms, Promises 2, 3, 6, 7, 9, 10, 11", NOTHING);
        FixedPlane plane = new FixedPlane();
        plane.two(0, 2, 5, 2, 6);
        plane.move(5 * ONE, 6 * ONE, true);
        plane.matrix(ONE, 2 * ONE, 2 * ONE, 4 * ONE, 5, 6);
        State before = State.of(plane);
        edge.equal("two BAD", plane.two(11, 1, 1, 1, 1), BAD);
        edge.equal("two RANGE of a whole", plane.two(0, 1, MAX, 1, 1), RANGE);
        edge.equal("two RANGE of a real", plane.two(0, 2, MAX, 2, 1), RANGE);
        edge.equal("two RANGE as a real", plane.two(0, 1, MAX, 2, 1), RANGE);
        edge.equal("two UNDEFINED", plane.two(3, 1, 1, 1, 0), UNDEFINED);
        edge.equal("two TYPE", plane.two(4, 1, 1, 2, 1), TYPE);
        edge.equal("one BAD", plane.one(12, 1, 1), BAD);
        edge.equal("one RANGE", plane.one(0, 1, MIN), RANGE);
        edge.equal("one RANGE as a real", plane.one(10, 1, 32768), RANGE);
        edge.equal("one UNDEFINED", plane.one(6, 1, -1), UNDEFINED);
        edge.equal("one TYPE", plane.one(11, 2, 1), TYPE);
        edge.equal("compare BAD", plane.compare(2, MIN, 1, 1), BAD);
        edge.equal("matrix false", plane.matrix(9, 9, 9, 9, 9, MIN) ? 1 : 0, 0);
        edge.equal("before BAD", plane.before(9, 9, 9, 9, 9, MIN), BAD);
        edge.equal("before RANGE", plane.before(9, 9, 9, 9, 9, MAX), RANGE);
        edge.equal("invert UNDEFINED", plane.invert(), UNDEFINED);
        edge.equal("move BAD", plane.move(9, MIN, true), BAD);
        edge.equal("move RANGE", plane.move(9, MAX, true), RANGE);
        edge.state("all of these", plane, before);
        plane.matrix(1, 0, 0, 1, 5, 6);
        edge.equal("invert RANGE", plane.invert(), RANGE);
        edge.state("invert RANGE", plane, before.withMatrix(1, 0, 0, 1, 5, 6));
    }

    /** What follows a refused call is reckoned as if that had not been made. */
    private static void goesOnAfterCodes() {
        edge.sentence("Terms, Promises 9, 10, 11, 12", NOTHING);
        FixedPlane plane = new FixedPlane();
        plane.matrix(ONE, 0, 0, ONE, MAX, 0);
        plane.before(ONE, 0, 0, ONE, 1, 0);
        plane.move(1, 0, true);
        edge.state("after a RANGE of before() and of move()", plane,
            State.of(new FixedPlane()).withMatrix(ONE, 0, 0, ONE, MAX, 0));
        edge.equal("move()", plane.move(-1, 2, true), 1);
        plane.move(1, 3, true);
        edge.equal("moved(0)", plane.moved(0), MAX - 1);
        edge.equal("moved(1)", plane.moved(1), 2);
        edge.equal("invert()", plane.invert(), 1);
        edge.equal("entry(4)", plane.entry(4), -MAX);
    }
}
