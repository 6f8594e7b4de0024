/** Promise 1: THE RESULT of a new object is the whole number 0; THE MATRIX moves nothing; nothing has moved. */
final class Promise01NewObjectTest {
    public static void main(String[] args) {
        Due due = new Due("Promise01NewObjectTest");
        FixedPlane plane = new FixedPlane();
        due.result("new", plane, 1, 0);
        due.entries("new", plane, 65536, 0, 0, 65536, 0, 0);
        due.moved("new", plane, 0, 0);
        objectsAreApart(due);
        due.end();
    }

    private static void objectsAreApart(Due due) {
        FixedPlane used = new FixedPlane();
        used.two(0, 2, 5, 2, 6);
        used.matrix(1, 2, 3, 4, 5, 6);
        used.move(7, 8, true);
        FixedPlane fresh = new FixedPlane();
        due.result("new beside a used one", fresh, 1, 0);
        due.entries("new beside a used one", fresh, 65536, 0, 0, 65536, 0, 0);
        due.moved("new beside a used one", fresh, 0, 0);
        due.result("used beside a new one", used, 2, 11);
        due.entries("used beside a new one", used, 1, 2, 3, 4, 5, 6);
    }
}
