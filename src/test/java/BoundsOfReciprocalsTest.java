/** The boundary cases of promises 30 to 35. */
public final class BoundsOfReciprocalsTest {
    private static final int GREATEST = 65535;

    public static void main(String[] args) {
        reachArguments();
        reachFromZeroOn();
        reachUpToAMillion();
        reachOfNone();
        divisors();
        reciprocalsAtTheEdges();
        reciprocalsAroundPowersOfTwo();
        firstFloatErrors();
        firstDoubleErrors();
        raisesUpToTheLastInput();
        raisesAtTheEdges();
        allRaises();
        noWidthButForRaises();
        Check.end();
    }

    /** "m: 0 to 1000000"; "k: 0 to 40"; "d: 1 to 65535"; "if an argument is out of its range" */
    private static void reachArguments() {
        Bounds.Maker maker = Bounds::busy;
        for (int k : new int[] {0, 40}) {
            for (int d : new int[] {1, GREATEST}) {
                Bounds.range("reach(m, " + k + ", " + d + "), m is ", 0, 1000000, Check.ARGUMENT, maker,
                        (x, m) -> x.reach(m, k, d));
            }
        }
        for (int m : new int[] {0, 1000000}) {
            for (int d : new int[] {1, GREATEST}) {
                Bounds.range("reach(" + m + ", k, " + d + "), k is ", 0, 40, Check.ARGUMENT, maker,
                        (x, k) -> x.reach(m, k, d));
            }
            for (int k : new int[] {0, 40}) {
                Bounds.range("reach(" + m + ", " + k + ", d), d is ", 1, GREATEST, Check.ARGUMENT, maker,
                        (x, d) -> x.reach(m, k, d));
            }
        }
        // Java's shifts of longs take 64 as 0.
        Bounds.refused("reach(1, 64, 1)", Check.ARGUMENT, maker, x -> x.reach(1, 64, 1));
        Bounds.refused("reach(-1, -1, 0)", Check.ARGUMENT, maker, x -> x.reach(-1, -1, 0));
    }

    private static void reached(int m, int k, int d, int want) {
        Check.due("reach(" + m + ", " + k + ", " + d + ")", new ConstantDivider().reach(m, k, d), want);
    }

    /** "the least n, 0 <= n": both are 0 for n = 0, so that 1 is the least there is; d where m is too small */
    private static void reachFromZeroOn() {
        reached(1000000, 0, 1, 1);
        reached(1, 0, 2, 1);
        reached(1000000, 0, GREATEST, 1);
        reached(2, 0, 1, 1);
        reached(1, 1, 1, 1);
        reached(0, 0, 1, 1);
        reached(0, 40, 1, 1);
        reached(0, 0, GREATEST, GREATEST);
        reached(0, 40, GREATEST, GREATEST);
        reached(1000000, 40, 1, 1);
        reached(1000000, 40, GREATEST, GREATEST);
        // 2^20 is more than m may be: floor(n * 1000000 / 2^20) is below n from 1 on.
        reached(1000000, 20, 1, 1);
    }

    /** "n <= 1000000": no m, k and d reach to a number nearer to 1000000 on either side (1000019 is beyond it) */
    private static void reachUpToAMillion() {
        reached(755974, 35, 45451, 999921);
        reached(927815, 35, 37033, 999890);
        reached(601284, 34, 28572, -1);
        reached(687168, 35, 50002, -1);
        long beyond = 1000019;
        Check.due("601284 reaches just beyond", (beyond * 601284 >> 34) - beyond / 28572, 1);
        reached(524289, 19, 1, 524288);
        reached(524287, 19, 1, 1);
    }

    /** "-1 if there is none" */
    private static void reachOfNone() {
        for (int k = 0; k <= 19; k++) {
            reached(1 << k, k, 1, -1);
        }
        for (int k = 0; k <= 15; k++) {
            reached(1, k, 1 << k, -1);
        }
        reached(524288, 34, 32768, -1);
        reached(524288, 35, 32768, 32768);
        reached(1, 16, GREATEST, GREATEST);
    }

    /** "d: 1 to 65535"; "if d is out of its range", with whatever width */
    private static void divisors() {
        Bounds.Maker[] makers = {ConstantDivider::new, Bounds::busy, () -> Bounds.chain(4, 40), Bounds::full};
        for (Bounds.Maker maker : makers) {
            Bounds.range("floatReciprocal", 1, GREATEST, Check.ARGUMENT, maker, (x, d) -> x.floatReciprocal(d));
            Bounds.range("doubleReciprocal", 1, GREATEST, Check.ARGUMENT, maker, (x, d) -> x.doubleReciprocal(d));
            Bounds.range("firstFloatError", 1, GREATEST, Check.ARGUMENT, maker, (x, d) -> x.firstFloatError(d));
            Bounds.range("firstDoubleError", 1, GREATEST, Check.ARGUMENT, maker, (x, d) -> x.firstDoubleError(d));
            Bounds.range("leastRaise", 1, GREATEST, Check.ARGUMENT, maker, (x, d) -> x.leastRaise(d));
        }
    }

    /** "the bits of the float reciprocal", "of the double reciprocal": of the first and the last divisor */
    private static void reciprocalsAtTheEdges() {
        ConstantDivider x = new ConstantDivider();
        Check.due("floatReciprocal(1)", x.floatReciprocal(1), 0x3f800000);
        Check.due("floatReciprocal(65535)", x.floatReciprocal(GREATEST), 0x37800080);
        Check.due("doubleReciprocal(1)", x.doubleReciprocal(1), 0x3ff0000000000000L);
        Check.due("doubleReciprocal(65535)", x.doubleReciprocal(GREATEST), 0x3ef0001000100010L);
    }

    /** The exponent changes between 2^k and 2^k + 1, and the fraction of 2^k is empty. */
    private static void reciprocalsAroundPowersOfTwo() {
        ConstantDivider x = new ConstantDivider();
        for (int k = 0; k <= 15; k++) {
            int d = 1 << k;
            Check.due("floatReciprocal(2^" + k + ")", x.floatReciprocal(d), (127 - k) << 23);
            Check.due("doubleReciprocal(2^" + k + ")", x.doubleReciprocal(d), (long) (1023 - k) << 52);
            int next = k == 0 ? 3 : d + 1;
            int exponent = k == 0 ? 125 : 126 - k;
            Check.due("exponent of floatReciprocal(" + next + ")", x.floatReciprocal(next) >> 23, exponent);
            Check.due("exponent of doubleReciprocal(" + next + ")", x.doubleReciprocal(next) >> 52, exponent + 896);
            Check.due("floatReciprocal(" + next + ")", x.floatReciprocal(next), Float.floatToIntBits(1.0f / next));
            Check.due("doubleReciprocal(" + next + ")", x.doubleReciprocal(next), Double.doubleToLongBits(1.0 / next));
        }
    }

    /** "Returns that n; -1 if there is none.": the first and the last divisor with an error, and those around them */
    private static void firstFloatErrors() {
        ConstantDivider x = new ConstantDivider();
        for (int d = 1; d <= 40; d++) {
            Check.due("firstFloatError(" + d + ")", x.firstFloatError(d), -1);
        }
        Check.due("firstFloatError(41)", x.firstFloatError(41), 41);
        Check.due("firstFloatError(42)", x.firstFloatError(42), -1);
        Check.due("firstFloatError(65523)", x.firstFloatError(65523), 65523);
        Check.due("firstFloatError(65524)", x.firstFloatError(65524), 65524);
        for (int d = 65525; d <= GREATEST; d++) {
            Check.due("firstFloatError(" + d + ")", x.firstFloatError(d), -1);
        }
    }

    /** The same with doubles. */
    private static void firstDoubleErrors() {
        ConstantDivider x = new ConstantDivider();
        for (int d = 1; d <= 48; d++) {
            Check.due("firstDoubleError(" + d + ")", x.firstDoubleError(d), -1);
        }
        Check.due("firstDoubleError(49)", x.firstDoubleError(49), 49);
        Check.due("firstDoubleError(50)", x.firstDoubleError(50), -1);
        Check.due("firstDoubleError(65526)", x.firstDoubleError(65526), 65526);
        Check.due("firstDoubleError(65530)", x.firstDoubleError(65530), 65530);
        for (int d = 65531; d <= GREATEST; d++) {
            Check.due("firstDoubleError(" + d + ")", x.firstDoubleError(d), -1);
        }
    }

    /** "for all n from 0 to 2^w - 1": the last error that lies within a width, and the first that does not */
    private static void raisesUpToTheLastInput() {
        int[][] rows = {{6, 61, 82}, {7, 123, 141}, {8, 249, 282}, {9, 503, 564}, {10, 1011, 1128}, {11, 2041, 2213},
            {12, 4082, 4231}, {13, 8171, 8437}, {14, 16381, 16707}, {15, 32762, 33255}};
        for (int[] row : rows) {
            ConstantDivider x = Bounds.ofWidth(row[0]);
            Check.due("leastRaise(" + row[1] + ") with " + row[0] + " bits", x.leastRaise(row[1]), 1);
            Check.due("leastRaise(" + row[2] + ") with " + row[0] + " bits", x.leastRaise(row[2]), 0);
            ConstantDivider wider = Bounds.ofWidth(row[0] + 1);
            Check.due("leastRaise(" + row[2] + ") with a bit more", wider.leastRaise(row[2]), 1);
        }
    }

    /** "the least j from 0 to 20": 0 where the reciprocal is right as it is */
    private static void raisesAtTheEdges() {
        for (int width = Bounds.LEAST_WIDTH; width <= Bounds.GREATEST_WIDTH; width++) {
            ConstantDivider x = Bounds.ofWidth(width);
            Check.due("leastRaise(1) with " + width + " bits", x.leastRaise(1), 0);
            Check.due("leastRaise(40) with " + width + " bits", x.leastRaise(40), 0);
            Check.due("leastRaise(41) with " + width + " bits", x.leastRaise(41), width <= 5 ? 0 : 1);
            Check.due("leastRaise(65524) with " + width + " bits", x.leastRaise(65524), width <= 15 ? 0 : 1);
            Check.due("leastRaise(65535) with " + width + " bits", x.leastRaise(GREATEST), 0);
        }
    }

    /** "-1 if there is none": this is so of no divisor, since a raise by 1 always is enough. */
    private static void allRaises() {
        for (int width : new int[] {4, 5, 6, 16}) {
            ConstantDivider x = Bounds.ofWidth(width);
            int greatest = (1 << width) - 1;
            for (int d = 1; d <= GREATEST; d++) {
                int error = x.firstFloatError(d);
                Check.due("leastRaise(" + d + ") with " + width + " bits", x.leastRaise(d),
                        error != -1 && error <= greatest ? 1 : 0);
            }
        }
    }

    /** The other calls do not depend on the width. */
    private static void noWidthButForRaises() {
        for (int width : new int[] {4, 16}) {
            ConstantDivider x = Bounds.ofWidth(width);
            Check.due("reach(755974, 35, 45451)", x.reach(755974, 35, 45451), 999921);
            Check.due("floatReciprocal(65535)", x.floatReciprocal(GREATEST), 0x37800080);
            Check.due("doubleReciprocal(65535)", x.doubleReciprocal(GREATEST), 0x3ef0001000100010L);
            Check.due("firstFloatError(65524)", x.firstFloatError(65524), 65524);
            Check.due("firstDoubleError(65530)", x.firstDoubleError(65530), 65530);
        }
    }
}
