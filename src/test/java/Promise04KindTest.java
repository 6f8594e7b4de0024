/** Promise 4: kind() is the kind of THE RESULT, and only what answers a kind changes it. */
final class Promise04KindTest {
    public static void main(String[] args) {
        Due due = new Due("Promise04KindTest");
        FixedPlane plane = new FixedPlane();
        due.equal("new", plane.kind(), 1);
        plane.one(10, 1, 3);
        due.equal("after TO REAL", plane.kind(), 2);
        due.equal("asked again", plane.kind(), 2);
        plane.one(11, 2, 3);
        due.equal("after a TYPE", plane.kind(), 2);
        plane.two(3, 1, 1, 1, 0);
        due.equal("after an UNDEFINED", plane.kind(), 2);
        plane.two(0, 1, Integer.MAX_VALUE, 1, 1);
        due.equal("after a RANGE", plane.kind(), 2);
        plane.compare(1, 1, 1, 1);
        plane.matrix(1, 2, 3, 4, 5, 6);
        plane.before(65536, 0, 0, 65536, 0, 0);
        plane.invert();
        plane.move(1, 1, true);
        due.equal("after what has another answer", plane.kind(), 2);
        plane.one(9, 2, 65536);
        due.equal("after TO WHOLE", plane.kind(), 1);
        plane.two(3, 1, 1, 1, 1);
        due.equal("after DIVIDE", plane.kind(), 2);
        plane.two(4, 1, 1, 1, 1);
        due.equal("after QUOTIENT", plane.kind(), 1);
        plane.one(6, 3, 4);
        due.equal("after a BAD", plane.kind(), 1);
        due.end();
    }
}
