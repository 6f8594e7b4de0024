/** Promise 10: invert() makes THE MATRIX its INVERSE. */
final class Promise10InvertTest {
    private static final int MAX = Integer.MAX_VALUE;
    private static final int ONE = 65536;
    private static final Due due = new Due("Promise10InvertTest");

    public static void main(String[] args) {
        plain();
        eachEntry();
        rounding();
        undefined();
        range();
        wide();
        due.end();
    }

    private static FixedPlane with(int a, int b, int c, int d, int e, int f) {
        FixedPlane plane = new FixedPlane();
        plane.matrix(a, b, c, d, e, f);
        plane.two(0, 2, 5, 2, 6);
        return plane;
    }

    private static void inverse(FixedPlane plane, String when, int... entries) {
        due.equal(when, plane.invert(), 1);
        due.entries(when, plane, entries);
        due.result(when, plane, 2, 11);
    }

    private static void plain() {
        inverse(with(ONE, 0, 0, ONE, 0, 0), "what moves nothing", ONE, 0, 0, ONE, 0, 0);
        inverse(with(ONE, 0, 0, ONE, 7, -8), "a step", ONE, 0, 0, ONE, -7, 8);
        inverse(with(0, ONE, -ONE, 0, 0, 0), "a quarter turn", 0, -ONE, ONE, 0, 0, 0);
        inverse(with(ONE, 0, 0, -ONE, 3, 5), "a mirror", ONE, 0, 0, -ONE, -3, 5);
    }

    /** D is 4 - 6 = -2 for 1 2 3 4 5 6: 4 / -2, 2 / 2, 3 / 2, 1 / -2, (18 - 20) / -2, (10 - 6) / -2. */
    private static void eachEntry() {
        inverse(with(ONE, 2 * ONE, 3 * ONE, 4 * ONE, 5 * ONE, 6 * ONE), "1 .. 6",
            -2 * ONE, ONE, 98304, -32768, ONE, -2 * ONE);
        inverse(with(196608, 65536, 131072, 196608, 123456, -98765), "the thirds and sevenths",
            28087, -9362, -18725, 28087, -81128, 59964);
    }

    /** D is 2 or -2: an odd number of units comes to a half. */
    private static void rounding() {
        inverse(with(2 * ONE, 0, -1, ONE, 0, 0), "-c: a half goes up", 32768, 0, 1, ONE, 0, 0);
        inverse(with(2 * ONE, 1, -1, ONE, 0, 0), "just less than a half", 32768, 0, 0, ONE, 0, 0);
        inverse(with(2 * ONE, 0, 1, ONE, 0, 1), "a half below 0 goes up", 32768, 0, 0, ONE, 0, -1);
        inverse(with(2 * ONE, 0, 0, ONE, 1, 0), "e: a half below 0 goes up", 32768, 0, 0, ONE, 0, 0);
        inverse(with(2 * ONE, 0, 0, ONE, -1, 0), "e: a half goes up", 32768, 0, 0, ONE, 1, 0);
        inverse(with(2 * ONE, 0, 0, -ONE, 1, 0), "D below 0, e", 32768, 0, 0, -ONE, 0, 0);
        inverse(with(2 * ONE, 0, 0, -ONE, -1, 0), "D below 0, e up", 32768, 0, 0, -ONE, 1, 0);
        inverse(with(2 * ONE, -1, 0, ONE, 0, 0), "-b: a half goes up", 32768, 1, 0, ONE, 0, 0);
        inverse(with(2 * ONE, 1, 0, ONE, 0, 0), "-b: a half below 0 goes up", 32768, 0, 0, ONE, 0, 0);
    }

    private static void undefined() {
        FixedPlane flat = with(ONE, 2 * ONE, 2 * ONE, 4 * ONE, 1, 2);
        due.equal("D is 0", flat.invert(), -3);
        due.entries("D is 0", flat, ONE, 2 * ONE, 2 * ONE, 4 * ONE, 1, 2);
        due.equal("all 0", with(0, 0, 0, 0, 0, 0).invert(), -3);
        due.equal("D is 0, wide", with(MAX, MAX, MAX, MAX, 0, 0).invert(), -3);
        due.equal("D is one unit of units", with(2, 1, 1, 1, 0, 0).invert(), -2);
        // D is 2^-32 of 1, which is nothing when it is rounded: it is looked at exactly.
        FixedPlane least = with(1, 0, 0, 1, 0, 0);
        due.equal("D is not 0", least.invert(), -2);
        due.entries("D is not 0", least, 1, 0, 0, 1, 0, 0);
    }

    private static void range() {
        due.equal("65536 units for one unit", with(1, 0, 0, ONE, 0, 0).invert(), -2);
        inverse(with(ONE, 0, 0, ONE, MAX, -MAX), "the ends", ONE, 0, 0, ONE, -MAX, MAX);
        // 2^32 / 2 is 2^31, one too many; 2^32 / 3 is not.
        due.equal("one too many", with(2, 0, 0, ONE, 0, 0).invert(), -2);
        due.equal("one too many below 0", with(-2, 0, 0, ONE, 0, 0).invert(), -2);
        inverse(with(3, 0, 0, ONE, 0, 0), "2^32 / 3", 1431655765, 0, 0, ONE, 0, 0);
        inverse(with(-3, 0, 0, ONE, 0, 0), "2^32 / -3", -1431655765, 0, 0, ONE, 0, 0);
        FixedPlane far = with(32768, 0, 0, ONE, 1 << 30, 0);
        due.equal("e / a beyond", far.invert(), -2);
        due.entries("e / a beyond", far, 32768, 0, 0, ONE, 1 << 30, 0);
        inverse(with(32768, 0, 0, ONE, (1 << 30) - 1, 0), "e / a just within", 2 * ONE, 0, 0, ONE, -MAX + 1, 0);
        due.equal("f / d beyond", with(ONE, 0, 0, -32768, 0, 1 << 30).invert(), -2);
    }

    /** D is twice MAX MAX: an entry comes to 2^31 / MAX, a little more than one unit. */
    private static void wide() {
        inverse(with(MAX, MAX, -MAX, MAX, MAX, MAX), "the greatest D", 1, -1, 1, 1, -ONE, 0);
        inverse(with(MAX, -MAX, -MAX, -MAX, MAX, MAX), "the least D", 1, -1, -1, -1, 0, ONE);
        inverse(with(MAX, MAX, -MAX, MAX, -MAX, MAX), "the greatest D, f", 1, -1, 1, 1, 0, -ONE);
        // c f - d e is four thirds of D below 0: twice D would pass 63 bits.
        inverse(with(MAX, -(1 << 30), MAX, MAX, MAX, -MAX), "four thirds", 1, 1, -1, 1, -87381, 21845);
        inverse(with(-MAX, -(1 << 30), MAX, -MAX, -MAX, -MAX), "four thirds, too", -1, 1, -1, -1, -87381, -21845);
    }
}
