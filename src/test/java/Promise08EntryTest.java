/** Promise 8: entry(k) is entry k of THE MATRIX, 0 for another k. */
final class Promise08EntryTest {
    public static void main(String[] args) {
        Due due = new Due("Promise08EntryTest");
        FixedPlane plane = new FixedPlane();
        due.entries("new", plane, 65536, 0, 0, 65536, 0, 0);
        plane.matrix(11, 12, 13, 14, 15, 16);
        due.entries("after matrix()", plane, 11, 12, 13, 14, 15, 16);
        for (int k : new int[] {Integer.MIN_VALUE, -1, 6, 7, 100, Integer.MAX_VALUE}) {
            due.equal("entry(" + k + ")", plane.entry(k), 0);
        }
        due.entries("asked again", plane, 11, 12, 13, 14, 15, 16);
        due.end();
    }
}
