import java.util.Arrays;

/** The program beside the model: all edges against all edges, and long mixed runs, state and all. */
final class ModelTest {
    private static final Due due = new Due("ModelTest");
    private static final int MAX = Integer.MAX_VALUE;
    private static final int MIN = Integer.MIN_VALUE;

    private static final int[] EDGES = {
        MIN, MIN + 1, -2147450881, -2147450880, -2147450879, -2147418113, -2147418112, -2147418111,
        -23592960, -11796480, -5898240, -131072, -98305, -98304, -98303, -65537, -65536, -65535,
        -46341, -40000, -32769, -32768, -32767, -361, -360, -180, -90, -33, -32, -31, -7, -3, -2, -1,
        0, 1, 2, 3, 7, 28, 29, 31, 32, 33, 45, 90, 91, 180, 270, 360, 361, 32767, 32768, 32769,
        40000, 46340, 46341, 65535, 65536, 65537, 98303, 98304, 98305, 131072, 2949120, 5898239,
        5898240, 5898241, 11796479, 11796480, 11796481, 17694720, 23592959, 23592960, 23592961,
        2147418111, 2147418112, 2147418113, 2147450879, 2147450880, MAX - 1, MAX};

    private static final int[] ENTRIES = {
        -MAX, -65537, -65536, -65535, -32768, -3, -2, -1, 0, 0, 0, 1, 2, 3, 7, 32767, 32768,
        65535, 65536, 65537, 131072, 1 << 24, 1 << 30, MAX - 1, MAX, MIN};

    private static long seed = 20261119;

    public static void main(String[] args) {
        tables();
        edgesOfTwo();
        edgesOfOne();
        anglesOneByOne();
        for (int run = 0; run < 3000; run++) {
            mixedRun();
        }
        due.end();
    }

    /** Numbers that are the same at every run of the test. */
    private static int next(int below) {
        seed = seed * 6364136223846793005L + 1442695040888963407L;
        return (int) Long.remainderUnsigned(seed >>> 16, below);
    }

    /** A number of any size: small ones as often as great ones. */
    private static int nextNumber() {
        int from = next(3);
        if (from == 0) {
            return EDGES[next(EDGES.length)];
        }
        long bits = ((long) next(1 << 16) << 16) + next(1 << 16);
        return (int) bits >> next(32);
    }

    private static int nextEntry() {
        return next(2) == 0 ? ENTRIES[next(ENTRIES.length)] : nextNumber();
    }

    /** What lets the model look for angles by halves: along them the sine never falls, the cosine never grows. */
    private static void tables() {
        int falls = 0;
        for (int angle = 1; angle <= Model.QUARTER; angle++) {
            if (Model.sineAt(angle) < Model.sineAt(angle - 1)
                || Model.cosineAt(angle) > Model.cosineAt(angle - 1)) {
                falls++;
            }
        }
        due.equal("falls of the sine and growths of the cosine", falls, 0);
    }

    private static void edgesOfTwo() {
        for (int what = 0; what <= 10; what++) {
            for (int kinds = 0; kinds < 4; kinds++) {
                for (int a : EDGES) {
                    edgesOfTwo(what, 1 + kinds / 2, a, 1 + kinds % 2);
                }
            }
        }
    }

    private static void edgesOfTwo(int what, int kindA, int a, int kindB) {
        FixedPlane plane = new FixedPlane();
        Model model = new Model();
        for (int b : EDGES) {
            String call = call("two", what, kindA, a, kindB, b);
            due.equal(call, plane.two(what, kindA, a, kindB, b), model.two(what, kindA, a, kindB, b));
            due.result(call, plane, model.kind, model.number);
            due.equal(call("compare", kindA, a, kindB, b),
                plane.compare(kindA, a, kindB, b), model.compare(kindA, a, kindB, b));
        }
    }

    private static void edgesOfOne() {
        for (int what = -1; what <= 12; what++) {
            for (int kind = 0; kind <= 3; kind++) {
                FixedPlane plane = new FixedPlane();
                Model model = new Model();
                for (int a : EDGES) {
                    String call = call("one", what, kind, a);
                    due.equal(call, plane.one(what, kind, a), model.one(what, kind, a));
                    due.result(call, plane, model.kind, model.number);
                }
            }
        }
    }

    /** ANGLE as the document says it, every real of 0 .. 90 degrees looked at in turn. */
    private static void anglesOneByOne() {
        int[][] points = {{1, 1}, {1, 2}, {2, 1}, {1, 57}, {1, 58}, {MAX, 1}, {1, MAX}, {MAX, MAX},
            {MAX, MAX - 1}, {37837, 65536}, {65536, 113512}, {7, 3}, {1000, 1}, {1, 1000}, {65526, 1144}};
        for (int[] point : points) {
            FixedPlane plane = new FixedPlane();
            plane.two(6, 2, point[1], 2, point[0]);
            due.result(call("angle", point), plane, 2, middleOneByOne(point[0], point[1]));
        }
    }

    private static int middleOneByOne(long x, long y) {
        int least = -1;
        int greatest = -1;
        for (int angle = 0; angle <= Model.QUARTER; angle++) {
            long across = x * Model.sineAt(angle) - y * Model.cosineAt(angle);
            if (across >= 0 && least < 0) {
                least = angle;
            }
            if (across <= 0) {
                greatest = angle;
            }
        }
        return (least + greatest) >> 1;
    }

    private static void mixedRun() {
        FixedPlane plane = new FixedPlane();
        Model model = new Model();
        for (int step = 0; step < 40; step++) {
            String call = mixedCall(plane, model);
            due.result(call, plane, model.kind, model.number);
            due.entries(call, plane, model.matrix);
            due.moved(call, plane, model.moved[0], model.moved[1]);
        }
    }

    private static String mixedCall(FixedPlane plane, Model model) {
        switch (next(8)) {
            case 0:
            case 1:
                return someTwo(plane, model);
            case 2:
                return someOne(plane, model);
            case 3:
                return someMatrix(plane, model);
            case 4:
                return someBefore(plane, model);
            case 5:
                due.equal("invert()", plane.invert(), model.invert());
                return "invert()";
            default:
                return someMove(plane, model);
        }
    }

    private static String someTwo(FixedPlane plane, Model model) {
        int what = next(11);
        int[] v = {1 + next(2), nextNumber(), 1 + next(2), nextNumber()};
        String call = call("two", what, v[0], v[1], v[2], v[3]);
        due.equal(call, plane.two(what, v[0], v[1], v[2], v[3]), model.two(what, v[0], v[1], v[2], v[3]));
        return call;
    }

    private static String someOne(FixedPlane plane, Model model) {
        int[] v = {next(12), 1 + next(2), nextNumber()};
        String call = call("one", v);
        due.equal(call, plane.one(v[0], v[1], v[2]), model.one(v[0], v[1], v[2]));
        return call;
    }

    private static String someMatrix(FixedPlane plane, Model model) {
        int[] m = someEntries();
        String call = call("matrix", m);
        due.equal(call, plane.matrix(m[0], m[1], m[2], m[3], m[4], m[5]), model.matrix(m));
        return call;
    }

    private static String someBefore(FixedPlane plane, Model model) {
        int[] m = someEntries();
        String call = call("before", m);
        due.equal(call, plane.before(m[0], m[1], m[2], m[3], m[4], m[5]), model.before(m));
        return call;
    }

    private static String someMove(FixedPlane plane, Model model) {
        int x = nextEntry();
        int y = nextEntry();
        boolean far = next(2) == 0;
        String call = call("move", x, y) + far;
        due.equal(call, plane.move(x, y, far), model.move(x, y, far));
        return call;
    }

    /** Of one size, so that inverses and products are often within the reals. */
    private static int[] someEntries() {
        int[] entries = new int[6];
        int kind = next(3);
        for (int k = 0; k < 6; k++) {
            entries[k] = kind == 0 ? nextEntry() : kind == 1 ? next(1 << 20) - (1 << 19) : next(8) * 16384 - 65536;
        }
        return entries;
    }

    private static String call(String name, int... arguments) {
        return name + Arrays.toString(arguments);
    }
}
