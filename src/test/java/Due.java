/** Counts and prints the answers that are not the ones that are due. */
final class Due {
    private final String test;
    private int asked = 0;
    private int wrong = 0;

    Due(String test) {
        this.test = test;
    }

    void equal(String call, long got, long want) {
        same(call, got, want);
    }

    void equal(String call, boolean got, boolean want) {
        equal(call, got ? 1 : 0, want ? 1 : 0);
    }

    void same(String call, Object got, Object want) {
        asked++;
        if (!got.equals(want)) {
            wrong++;
            if (wrong <= 20) {
                System.out.println(test + ": " + call + " answered " + got + ", due is " + want);
            }
        }
    }

    /** THE RESULT of an object: its kind and its number. */
    void result(String when, FixedPlane plane, int kind, int number) {
        equal(when + ": kind()", plane.kind(), kind);
        equal(when + ": number()", plane.number(), number);
    }

    /** two() on a new object whose RESULT has been made the whole 77, so a code must leave that. */
    void two(int what, int kindA, int a, int kindB, int b, int answer, int number) {
        FixedPlane plane = new FixedPlane();
        plane.two(0, 1, 77, 1, 0);
        String call = "two(" + what + ", " + kindA + ", " + a + ", " + kindB + ", " + b + ")";
        equal(call, plane.two(what, kindA, a, kindB, b), answer);
        result(call, plane, answer < 0 ? 1 : answer, answer < 0 ? 77 : number);
    }

    void twoRefused(int what, int kindA, int a, int kindB, int b, int code) {
        two(what, kindA, a, kindB, b, code, 77);
    }

    void one(int what, int kind, int a, int answer, int number) {
        FixedPlane plane = new FixedPlane();
        plane.two(0, 1, 77, 1, 0);
        String call = "one(" + what + ", " + kind + ", " + a + ")";
        equal(call, plane.one(what, kind, a), answer);
        result(call, plane, answer < 0 ? 1 : answer, answer < 0 ? 77 : number);
    }

    void oneRefused(int what, int kind, int a, int code) {
        one(what, kind, a, code, 77);
    }

    void entries(String when, FixedPlane plane, int... entries) {
        for (int k = 0; k < entries.length; k++) {
            equal(when + ": entry(" + k + ")", plane.entry(k), entries[k]);
        }
    }

    void moved(String when, FixedPlane plane, int x, int y) {
        equal(when + ": moved(0)", plane.moved(0), x);
        equal(when + ": moved(1)", plane.moved(1), y);
    }

    void end() {
        System.out.println(test + ": " + asked + " answers, " + wrong + " not as due");
        if (wrong != 0 || asked == 0) {
            System.exit(1);
        }
    }
}
