import java.util.Random;

/** Promises 30 to 35: reach, floatReciprocal, doubleReciprocal, firstFloatError, firstDoubleError, leastRaise. */
public final class ReciprocalsTest {
    private static final PlainModel MODEL = new PlainModel();

    public static void main(String[] args) {
        knownReaches();
        reachesBySearch();
        reachesDrawn();
        bitsOfAllDivisors();
        firstErrors();
        leastRaises();
        refusals();
        Check.end();
    }

    private static void reached(int m, int k, int d) {
        Check.due("reach(" + m + ", " + k + ", " + d + ")", new ConstantDivider().reach(m, k, d), MODEL.reach(m, k, d));
    }

    private static void knownReaches() {
        ConstantDivider x = new ConstantDivider();
        int[][] due = {{205, 10, 5, 1024}, {205, 11, 10, 1029}, {1, 0, 1, -1}, {0, 0, 3, 3}, {0, 40, 65535, 65535},
            {2, 0, 1, 1}, {1, 1, 2, -1}, {1, 1, 1, 1}, {32768, 15, 1, -1}, {1000000, 0, 1, 1}, {1000000, 40, 65535, 65535},
            {524289, 19, 1, 524288}, {524287, 19, 1, 1},
            {377987, 34, 45451, 999921}, {150321, 30, 7143, -1}};
        for (int[] row : due) {
            Check.due("reach(" + row[0] + ", " + row[1] + ", " + row[2] + ")", x.reach(row[0], row[1], row[2]), row[3]);
        }
        x.setWidth(4);
        Check.due("reach does not depend on the width", x.reach(205, 10, 5), 1024);
    }

    private static void reachesBySearch() {
        for (int d = 1; d <= 24; d++) {
            for (int k = 0; k <= 9; k++) {
                for (int m = 0; m <= 3 + 2 * (1 << k) / d; m++) {
                    reached(m, k, d);
                }
            }
        }
    }

    /** Multipliers near 2^k / d, which reach far, and d near the edges. */
    private static void reachesDrawn() {
        Random random = new Random(7);
        for (int i = 0; i < 3000; i++) {
            int k = random.nextInt(41);
            int d = random.nextBoolean() ? 1 + random.nextInt(65535) : 1 + random.nextInt(1 << random.nextInt(17)) % 65535;
            long near = (1L << k) / d + random.nextInt(4) - 1;
            int m = (int) Math.max(0, Math.min(1000000, near));
            reached(m, k, d);
            reached(random.nextInt(1000001), k, d);
        }
        for (int d : new int[] {1, 2, 3, 7, 4096, 65534, 65535}) {
            for (int k : new int[] {0, 1, 19, 20, 21, 35, 36, 39, 40}) {
                for (int m : new int[] {0, 1, 999999, 1000000}) {
                    reached(m, k, d);
                }
            }
        }
    }

    private static void bitsOfAllDivisors() {
        ConstantDivider x = new ConstantDivider();
        Check.due("floatReciprocal(1)", x.floatReciprocal(1), 0x3f800000);
        Check.due("floatReciprocal(3)", x.floatReciprocal(3), 1051372203);
        Check.due("doubleReciprocal(1)", x.doubleReciprocal(1), 0x3ff0000000000000L);
        Check.due("doubleReciprocal(3)", x.doubleReciprocal(3), 4599676419421066581L);
        for (int d = 1; d <= 65535; d++) {
            Check.due("floatReciprocal(" + d + ")", x.floatReciprocal(d), Float.floatToIntBits(1.0f / d));
            Check.due("doubleReciprocal(" + d + ")", x.doubleReciprocal(d), Double.doubleToLongBits(1.0 / d));
        }
    }

    private static void firstErrors() {
        ConstantDivider x = new ConstantDivider();
        Check.due("firstFloatError(3)", x.firstFloatError(3), -1);
        Check.due("firstFloatError(41)", x.firstFloatError(41), 41);
        Check.due("firstDoubleError(49)", x.firstDoubleError(49), 49);
        Check.due("firstDoubleError(1)", x.firstDoubleError(1), -1);
        for (int d = 1; d <= 65535; d += d < 2000 || d > 65000 ? 1 : 61) {
            Check.due("firstFloatError(" + d + ")", x.firstFloatError(d), MODEL.firstFloatError(d));
            Check.due("firstDoubleError(" + d + ")", x.firstDoubleError(d), MODEL.firstDoubleError(d));
        }
    }

    private static void leastRaises() {
        for (int width = 4; width <= 16; width++) {
            ConstantDivider x = new ConstantDivider();
            PlainModel model = new PlainModel();
            x.setWidth(width);
            model.setWidth(width);
            for (int d = 1; d <= 65535; d += d < 700 || d > 65500 ? 1 : 97) {
                Check.due("leastRaise(" + d + ") with " + width + " bits", x.leastRaise(d), model.leastRaise(d));
            }
        }
    }

    private static void refusals() {
        ConstantDivider x = new ConstantDivider();
        x.build(0, 7);
        for (int m : new int[] {-1, 1000001, Integer.MIN_VALUE, Integer.MAX_VALUE}) {
            Check.refused(x, "reach(" + m + ", 0, 1)", Check.ARGUMENT, () -> x.reach(m, 0, 1));
        }
        for (int k : new int[] {-1, 41, Integer.MIN_VALUE, Integer.MAX_VALUE}) {
            Check.refused(x, "reach(1, " + k + ", 1)", Check.ARGUMENT, () -> x.reach(1, k, 1));
        }
        for (int d : new int[] {0, -1, 65536, Integer.MIN_VALUE, Integer.MAX_VALUE}) {
            Check.refused(x, "reach(1, 0, " + d + ")", Check.ARGUMENT, () -> x.reach(1, 0, d));
            Check.refused(x, "floatReciprocal(" + d + ")", Check.ARGUMENT, () -> x.floatReciprocal(d));
            Check.refused(x, "doubleReciprocal(" + d + ")", Check.ARGUMENT, () -> x.doubleReciprocal(d));
            Check.refused(x, "firstFloatError(" + d + ")", Check.ARGUMENT, () -> x.firstFloatError(d));
            Check.refused(x, "firstDoubleError(" + d + ")", Check.ARGUMENT, () -> x.firstDoubleError(d));
            Check.refused(x, "leastRaise(" + d + ")", Check.ARGUMENT, () -> x.leastRaise(d));
        }
        Check.due("reciprocals are no edits", x.undo(), 0);
    }
}
