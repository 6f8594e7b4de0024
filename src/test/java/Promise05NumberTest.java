/** Promise 5: number() is the number of THE RESULT: the whole number, or the real's units. */
final class Promise05NumberTest {
    public static void main(String[] args) {
        Due due = new Due("Promise05NumberTest");
        FixedPlane plane = new FixedPlane();
        due.equal("new", plane.number(), 0);
        plane.two(0, 1, 20, 1, 22);
        due.equal("a whole sum", plane.number(), 42);
        due.equal("asked again", plane.number(), 42);
        plane.one(10, 1, -3);
        due.equal("a real", plane.number(), -3 * 65536);
        plane.one(6, 2, -1);
        due.equal("after an UNDEFINED", plane.number(), -3 * 65536);
        plane.one(10, 1, 32768);
        due.equal("after a RANGE", plane.number(), -3 * 65536);
        plane.two(4, 2, 1, 2, 1);
        due.equal("after a TYPE", plane.number(), -3 * 65536);
        plane.two(11, 1, 1, 1, 1);
        due.equal("after a BAD", plane.number(), -3 * 65536);
        plane.compare(1, 5, 1, 1);
        plane.matrix(1, 2, 3, 4, 5, 6);
        plane.before(65536, 0, 0, 65536, 0, 0);
        plane.invert();
        plane.move(1, 1, true);
        due.equal("after what has another answer", plane.number(), -3 * 65536);
        plane.one(11, 1, Integer.MAX_VALUE);
        due.equal("the least whole", plane.number(), Integer.MIN_VALUE);
        due.end();
    }
}
