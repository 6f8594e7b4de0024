/** Promise 12: moved() tells where the latest move() came to. */
final class Promise12MovedTest {
    public static void main(String[] args) {
        Due due = new Due("Promise12MovedTest");
        FixedPlane plane = new FixedPlane();
        due.moved("before a move", plane, 0, 0);
        plane.move(Integer.MIN_VALUE, 1, true);
        due.moved("after a refused one alone", plane, 0, 0);
        plane.move(5, -6, true);
        due.moved("after a move", plane, 5, -6);
        due.moved("asked again", plane, 5, -6);
        for (int what : new int[] {Integer.MIN_VALUE, -1, 2, 3, Integer.MAX_VALUE}) {
            due.equal("moved(" + what + ")", plane.moved(what), 0);
        }
        plane.move(7, 8, false);
        due.moved("after another", plane, 7, 8);
        plane.move(9, Integer.MIN_VALUE, true);
        due.moved("after a BAD one", plane, 7, 8);
        plane.matrix(65536, 0, 0, 65536, 0, Integer.MAX_VALUE);
        plane.move(9, 9, true);
        due.moved("after a RANGE of y alone", plane, 7, 8);
        plane.invert();
        plane.before(65536, 0, 0, 65536, 1, 1);
        plane.two(0, 1, 1, 1, 1);
        due.moved("after other calls", plane, 7, 8);
        due.end();
    }
}
