/** The boundary cases of promises 5 to 9. */
public final class BoundsOfConstantsTest {
    private final int w;
    private final int top;
    private final int half;
    private final int quarter;
    private final ConstantDivider x;

    private BoundsOfConstantsTest(int width) {
        w = width;
        top = (1 << w) - 1;
        half = 1 << (w - 1);
        quarter = 1 << (w - 2);
        x = Bounds.ofWidth(w);
    }

    public static void main(String[] args) {
        for (int width = Bounds.LEAST_WIDTH; width <= Bounds.GREATEST_WIDTH; width++) {
            BoundsOfConstantsTest test = new BoundsOfConstantsTest(width);
            test.ranges();
            test.powersOfTwo();
            test.multipliersAtTheEdges();
            test.multipliersOfThree();
            test.signedMultipliersAtTheEdges();
            test.inversesOfOddNumbersAlone();
            test.inversesAtTheEdges();
            test.digitsAtTheEdges();
            test.mostDigits();
        }
        errorsJustSmallEnough();
        Check.end();
    }

    private String of(String call) {
        return call + " with " + w + " bits";
    }

    /** "d: 1 to 2^w - 1"; "d: 1 to 2^(w-1) - 1"; "e: an odd number, 1 to 2^w - 1"; "c: 0 to 2^w - 1" */
    private void ranges() {
        for (Bounds.Maker maker : new Bounds.Maker[] {() -> Bounds.ofWidth(w), () -> Bounds.chain(w, 40)}) {
            Bounds.range(of("multiplier"), 1, top, Check.ARGUMENT, maker, (y, d) -> y.multiplier(d));
            Bounds.range(of("shift"), 1, top, Check.ARGUMENT, maker, (y, d) -> y.shift(d));
            Bounds.range(of("signedMultiplier"), 1, half - 1, Check.ARGUMENT, maker, (y, d) -> y.signedMultiplier(d));
            Bounds.range(of("inverse"), 1, top, Check.ARGUMENT, maker, (y, d) -> y.inverse(d));
            Bounds.range(of("digits"), 0, top, Check.ARGUMENT, maker, (y, d) -> y.digits(d));
            Bounds.refused(of("signedMultiplier(-2^(w-1))"), Check.ARGUMENT, maker, y -> y.signedMultiplier(-half));
        }
    }

    /** "0 if d is a power of two"; "k if d = 2^k" */
    private void powersOfTwo() {
        for (int k = 0; k < w; k++) {
            int d = 1 << k;
            Check.due(of("multiplier(2^" + k + ")"), x.multiplier(d), 0);
            Check.due(of("shift(2^" + k + ")"), x.shift(d), k);
            if (k < w - 1) {
                Check.due(of("signedMultiplier(2^" + k + ")"), x.signedMultiplier(d), 0);
            }
            if (k >= 2) {
                Check.due(of("multiplier(2^" + k + " - 1) is 0"), x.multiplier(d - 1) == 0, false);
                Check.due(of("multiplier(2^" + k + " + 1) is 0"), x.multiplier(d + 1) == 0, false);
                Check.due(of("signedMultiplier(2^" + k + " - 1) is 0"), x.signedMultiplier(d - 1) == 0, false);
            }
        }
    }

    /** "it can be 2^w or more": the multipliers nearest to 2^w on both sides, and those of the greatest divisors. */
    private void multipliersAtTheEdges() {
        Check.due(of("multiplier(2^(w-1) + 1)"), x.multiplier(half + 1), top);
        Check.due(of("shift(2^(w-1) + 1)"), x.shift(half + 1), w - 1);
        Check.due(of("multiplier(2^(w-1) - 1)"), x.multiplier(half - 1), top + 4);
        Check.due(of("shift(2^(w-1) - 1)"), x.shift(half - 1), w - 1);
        Check.due(of("multiplier(2^w - 1)"), x.multiplier(top), half + 1);
        Check.due(of("shift(2^w - 1)"), x.shift(top), w - 1);
        Check.due(of("multiplier(2^w - 2)"), x.multiplier(top - 1), top + 4);
        Check.due(of("shift(2^w - 2)"), x.shift(top - 1), w);
    }

    /** "the least number, from 0 on, such that M * d - 2^(w+s) <= 2^s": with s = 0 this is 1 or 2, and 1 is enough. */
    private void multipliersOfThree() {
        boolean odd = w % 2 == 1;
        int times = odd ? 1 : 2;
        Check.due(of("shift(3)"), x.shift(3), odd ? 0 : 1);
        Check.due(of("multiplier(3)"), x.multiplier(3), (times * (top + 1) + 1) / 3);
        // With 2^(s+1) instead, both are enough.
        Check.due(of("signedMultiplier(3)"), x.signedMultiplier(3), (top + 1) / 3 + 1);
    }

    /** The signed multipliers nearest to 2^(w-1) on both sides, and that of the greatest divisor. */
    private void signedMultipliersAtTheEdges() {
        Check.due(of("signedMultiplier(2^(w-1) - 1)"), x.signedMultiplier(half - 1), quarter + 1);
        Check.due(of("signedMultiplier(2^(w-2) + 1)"), x.signedMultiplier(quarter + 1), half - 1);
        if (w > 4) {
            Check.due(of("signedMultiplier(2^(w-2) - 1)"), x.signedMultiplier(quarter - 1), half + 3);
        }
    }

    /** "if e is out of its range or even" */
    private void inversesOfOddNumbersAlone() {
        for (int even : new int[] {-2, 0, 2, half, top - 1, top + 1, top + 3}) {
            Bounds.refused(of("inverse(" + even + ")"), Check.ARGUMENT, () -> Bounds.ofWidth(w), y -> y.inverse(even));
        }
        for (int out : new int[] {-1, -3, top + 2, 65537, -65535}) {
            Bounds.refused(of("inverse(" + out + ")"), Check.ARGUMENT, () -> Bounds.ofWidth(w), y -> y.inverse(out));
        }
    }

    /** "the number i from 1 to 2^w - 1 with e * i modulo 2^w = 1": these are their own inverses. */
    private void inversesAtTheEdges() {
        for (int e : new int[] {1, half - 1, half + 1, top}) {
            Check.due(of("inverse(" + e + ")"), x.inverse(e), e);
        }
        long i = x.inverse(3);
        Check.due(of("3 * inverse(3)"), 3 * i % (top + 1), 1);
        Check.due(of("inverse(3) is from 1 to 2^w - 1"), i >= 1 && i <= top, true);
    }

    /** "those for 2^w and beyond not included" */
    private void digitsAtTheEdges() {
        Check.due(of("digits(0)"), x.digits(0), 0);
        Check.due(of("digits(1)"), x.digits(1), 1);
        Check.due(of("digits(2^w - 1)"), x.digits(top), 1);
        Check.due(of("digits(2^w - 2)"), x.digits(top - 1), 1);
        Check.due(of("digits(2^(w-1))"), x.digits(half), 1);
        Check.due(of("digits(2^(w-1) - 1)"), x.digits(half - 1), 2);
        Check.due(of("digits(2^(w-1) + 1)"), x.digits(half + 1), 2);
        Check.due(of("digits(2^(w-1) + 2^(w-2))"), x.digits(half + quarter), 1);
        Check.due(of("digits(2^(w-1) + 2^(w-2) - 1)"), x.digits(half + quarter - 1), 2);
    }

    /** No two digits different from 0 are adjacent, so that every other one is the most there can be. */
    private void mostDigits() {
        int every = 0;
        for (int p = 0; p < w; p += 2) {
            every |= 1 << p;
        }
        Check.due(of("digits of every other bit"), x.digits(every), (w + 1) / 2);
        for (int c = 0; c <= top; c++) {
            Check.due(of("digits(" + c + ") is at most half of them"), x.digits(c) <= (w + 1) / 2, true);
        }
    }

    /** "<= 2^s", "<= 2^(s+1)": divisors whose error is just that, and such as were one too many with s - 1. */
    private static void errorsJustSmallEnough() {
        int[][] shifts = {{5, 6, 1}, {5, 11, 0}, {5, 24, 3}, {9, 12, 2}, {9, 19, 0}, {4, 5, 2}, {5, 7, 3}, {5, 23, 5},
            {8, 7, 3}, {8, 35, 6}, {16, 21, 5}, {16, 257, 8}};
        for (int[] row : shifts) {
            ConstantDivider x = Bounds.ofWidth(row[0]);
            Check.due("shift(" + row[1] + ") with " + row[0] + " bits", x.shift(row[1]), row[2]);
            Check.due("multiplier(" + row[1] + ") with " + row[0] + " bits", x.multiplier(row[1]),
                    ceil(row[0] + row[2], row[1]));
        }
        int[][] signed = {{4, 6, 0}, {8, 12, 1}, {8, 43, 0}, {8, 48, 3}, {16, 11, 0}, {5, 5, 1}, {9, 7, 2}, {9, 47, 5},
            {16, 19, 4}, {16, 26041, 14}};
        for (int[] row : signed) {
            ConstantDivider x = Bounds.ofWidth(row[0]);
            Check.due("signedMultiplier(" + row[1] + ") with " + row[0] + " bits", x.signedMultiplier(row[1]),
                    ceil(row[0] + row[2], row[1]));
        }
    }

    private static long ceil(int exponent, int d) {
        return ((1L << exponent) + d - 1) / d;
    }
}
