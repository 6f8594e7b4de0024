import java.util.List;

/** Promises 1, 4, 5, 6, 8 and 12: a new object, what can be asked of it, and how long it can be asked. */
final class BoundaryStateTest {
    private static final int MAX = Boundary.MAX;
    private static final int MIN = Boundary.MIN;
    private static final int ONE = Boundary.ONE;
    private static final int BAD = Boundary.BAD;
    private static final int MOST_CALLS = 512;

    private static final Boundary edge = new Boundary("BoundaryStateTest");

    public static void main(String[] args) {
        newObject();
        firstMatrix();
        kind();
        number();
        compareOneKind();
        compareTwoKinds();
        compareBad();
        anotherEntry();
        anotherMoved();
        beforeTheFirstMove();
        latestMove();
        fiveHundredAndTwelveCalls();
        edge.end();
    }

    private static void newObject() {
        edge.sentence("Promise 1", "THE RESULT is the whole number 0.");
        FixedPlane plane = new FixedPlane();
        edge.equal("kind() first of all", plane.kind(), 1);
        edge.equal("number()", plane.number(), 0);
        edge.equal("number() first of all", new FixedPlane().number(), 0);
        plane.two(0, 2, 5, 2, 6);
        FixedPlane other = new FixedPlane();
        edge.equal("kind() of another", other.kind(), 1);
        edge.equal("number() of another", other.number(), 0);
        edge.equal("kind() of the first", plane.kind(), 2);
        edge.equal("number() of the first", plane.number(), 11);
    }

    private static void firstMatrix() {
        edge.sentence("Terms, Promise 8", "THE MATRIX is one of them, first 1 0 0 1 0 0.");
        int[] first = {ONE, 0, 0, ONE, 0, 0};
        for (int k = 0; k < 6; k++) {
            edge.equal("entry(" + k + ") first of all", new FixedPlane().entry(k), first[k]);
        }
        FixedPlane plane = new FixedPlane();
        edge.equal("move()", plane.move(MAX, -MAX, true), 1);
        edge.equal("moved(0)", plane.moved(0), MAX);
        edge.equal("moved(1)", plane.moved(1), -MAX);
        plane.matrix(1, 2, 3, 4, 5, 6);
        edge.state("another", new FixedPlane(), new State(1, 0, List.of(ONE, 0, 0, ONE, 0, 0), 0, 0));
    }

    private static void kind() {
        edge.sentence("Promise 4", "The kind of THE RESULT.");
        FixedPlane plane = new FixedPlane();
        edge.equal("TO REAL", plane.one(10, 1, 0), 2);
        edge.equal("kind() of the real 0", plane.kind(), 2);
        edge.equal("TO REAL refused", plane.one(10, 1, 32768), Boundary.RANGE);
        edge.equal("kind() as before", plane.kind(), 2);
        edge.equal("TO WHOLE", plane.one(9, 2, 0), 1);
        edge.equal("kind() of the whole 0", plane.kind(), 1);
        edge.equal("ROOT refused", plane.one(6, 2, -1), Boundary.UNDEFINED);
        edge.equal("kind() as before", plane.kind(), 1);
    }

    private static void number() {
        edge.sentence("Promise 5", "Its number.");
        FixedPlane plane = new FixedPlane();
        for (int whole : new int[] {MIN, MIN + 1, -1, 0, 1, MAX}) {
            plane.one(9, 1, whole);
            edge.equal("number() of the whole " + whole, plane.number(), whole);
        }
        for (int units : new int[] {-MAX, -1, 0, 1, MAX}) {
            plane.one(10, 2, units);
            edge.equal("number() of the units " + units, plane.number(), units);
            plane.one(10, 2, MIN);
            plane.two(0, 2, MAX, 2, MAX);
            edge.equal("number() as before", plane.number(), units);
        }
    }

    private static final String COMPARE = "COMPARE: exactly, whether A is below, the same as, or above B.";

    private static void compareOneKind() {
        edge.sentence("Terms, Promise 6", COMPARE);
        int[] rising = {-MAX, -MAX + 1, -65537, -ONE, -2, -1, 0, 1, 2, ONE, 65537, MAX - 1, MAX};
        for (int kind = 1; kind <= 2; kind++) {
            for (int k = 0; k < rising.length; k++) {
                edge.compare(kind, rising[k], kind, rising[k], 1);
                for (int above = k + 1; above < rising.length; above++) {
                    edge.compareBothWays(kind, rising[k], kind, rising[above], 0);
                }
            }
        }
        edge.compareBothWays(1, MIN, 1, -MAX, 0);
        edge.compareBothWays(1, MIN, 1, MAX, 0);
        edge.compare(1, MIN, 1, MIN, 1);
    }

    /** A whole number that is no real is compared all the same, and one unit is enough. */
    private static void compareTwoKinds() {
        edge.sentence("Terms, Promise 6, two kinds", COMPARE);
        for (int whole : new int[] {-32767, -2, -1, 0, 1, 2, 32767}) {
            edge.compareBothWays(1, whole, 2, whole * ONE - 1, 2);
            edge.compareBothWays(1, whole, 2, whole * ONE, 1);
            edge.compareBothWays(1, whole, 2, whole * ONE + 1, 0);
        }
        edge.compareBothWays(1, 32767, 2, MAX, 0);
        edge.compareBothWays(1, -32767, 2, -MAX, 2);
        for (int beyond : new int[] {32768, 32769, ONE, ONE + 1, 1 << 30, MAX}) {
            edge.compareBothWays(1, beyond, 2, MAX, 2);
            edge.compareBothWays(1, -beyond, 2, -MAX, 0);
            edge.compareBothWays(1, beyond, 2, 0, 2);
            edge.compareBothWays(1, -beyond, 2, 0, 0);
        }
        edge.compareBothWays(1, MIN, 2, -MAX, 0);
        edge.compareBothWays(1, MIN, 2, MAX, 0);
    }

    private static void compareBad() {
        edge.sentence("Promise 6", "0, 1, 2 for below, the same, above. BAD when there is no such kind or number.");
        for (int kind : new int[] {MIN, -1, 0, 3, MAX}) {
            edge.compare(kind, 1, 1, 1, BAD);
            edge.compare(1, 1, kind, 1, BAD);
            edge.compare(kind, 1, kind, 1, BAD);
        }
        edge.compare(2, MIN, 1, MIN, BAD);
        edge.compare(1, MIN, 2, MIN, BAD);
        edge.compare(2, MIN, 2, MIN, BAD);
        edge.compare(1, MIN, 2, -MAX, 0);
    }

    private static void anotherEntry() {
        edge.sentence("Promise 8", "Entry k of THE MATRIX (0 .. 5), its units; 0 for another k.");
        FixedPlane plane = new FixedPlane();
        plane.one(9, 1, 8);
        plane.move(9, 10, true);
        plane.matrix(MAX, -MAX, 3, -4, 5, -MAX);
        for (int k : new int[] {MIN, -6, -2, -1, 6, 7, 8, 1 << 16, MAX}) {
            edge.equal("entry(" + k + ")", plane.entry(k), 0);
        }
        int[] entries = {MAX, -MAX, 3, -4, 5, -MAX};
        for (int k = 0; k < 6; k++) {
            edge.equal("entry(" + k + ")", plane.entry(k), entries[k]);
        }
    }

    private static final String MOVED = "Where the latest move() came to: its x (0) or y (1), in units;"
        + " 0 for another what, and before.";

    private static void anotherMoved() {
        edge.sentence("Promise 12, another what", MOVED);
        FixedPlane plane = new FixedPlane();
        plane.one(9, 1, 8);
        plane.move(MAX, -MAX, true);
        plane.matrix(3, 4, 5, 6, 7, 8);
        for (int what : new int[] {MIN, -2, -1, 2, 3, 1 << 16, MAX}) {
            edge.equal("moved(" + what + ")", plane.moved(what), 0);
        }
        edge.equal("moved(0)", plane.moved(0), MAX);
        edge.equal("moved(1)", plane.moved(1), -MAX);
    }

    /** A refused first move is none. */
    private static void beforeTheFirstMove() {
        edge.sentence("Promise 12, before", MOVED);
        edge.equal("moved(0) first of all", new FixedPlane().moved(0), 0);
        edge.equal("moved(1) first of all", new FixedPlane().moved(1), 0);
        FixedPlane plane = new FixedPlane();
        plane.matrix(ONE, 0, 0, ONE, 5, MAX);
        State before = State.of(plane);
        edge.equal("moved(0) before", plane.moved(0), 0);
        edge.equal("moved(1) before", plane.moved(1), 0);
        edge.equal("a BAD first move", plane.move(3, MIN, true), BAD);
        edge.equal("a first move that is RANGE in y alone", plane.move(3, 4, true), Boundary.RANGE);
        edge.state("refused moves", plane, before);
        edge.equal("a first move", plane.move(3, 0, true), 1);
        edge.state("a first move", plane, before.withMoved(8, MAX));
    }

    private static void latestMove() {
        edge.sentence("Promise 12, the latest", MOVED);
        FixedPlane plane = new FixedPlane();
        plane.move(1, 2, true);
        plane.move(3, 4, false);
        edge.equal("moved(0)", plane.moved(0), 3);
        edge.equal("moved(1)", plane.moved(1), 4);
        plane.matrix(2 * ONE, 0, 0, 2 * ONE, 7, 7);
        plane.before(ONE, 0, 0, ONE, 1, 1);
        plane.invert();
        edge.equal("moved(0) behind another matrix", plane.moved(0), 3);
        edge.equal("moved(1) behind another matrix", plane.moved(1), 4);
        plane.move(0, 0, false);
        edge.equal("moved(0) of 0", plane.moved(0), 0);
        edge.equal("moved(1) of 0", plane.moved(1), 0);
    }

    /** The last of them is answered as the first. */
    private static void fiveHundredAndTwelveCalls() {
        edge.sentence("What it is", "An object is used for at most 512 calls after it has been made;");
        FixedPlane plane = new FixedPlane();
        int sum = 0;
        for (int call = 1; call <= MOST_CALLS - 4; call += 4) {
            edge.equal("call " + call, plane.two(0, 1, sum, 1, call), 1);
            sum += call;
            edge.equal("call " + (call + 1), plane.number(), sum);
            edge.equal("call " + (call + 2), plane.before(ONE, 0, 0, ONE, 1, -1), 1);
            edge.equal("call " + (call + 3), plane.move(0, 0, true), 1);
        }
        int steps = (MOST_CALLS - 4) / 4;
        edge.equal("call 509", plane.moved(0), steps);
        edge.equal("call 510", plane.moved(1), -steps);
        edge.equal("call 511", plane.invert(), 1);
        edge.equal("call 512", plane.entry(4), -steps);
    }
}
