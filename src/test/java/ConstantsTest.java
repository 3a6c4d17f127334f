/** Promises 5 to 9: multiplier, shift, signedMultiplier, inverse, digits. */
public final class ConstantsTest {
    private static final int[] NEVER = {-1, -7, Integer.MIN_VALUE, Integer.MAX_VALUE, 65536, 65537, 1 << 20};

    public static void main(String[] args) {
        knownAnswers();
        refusals();
        for (int width = 4; width <= 16; width++) {
            againstModel(width, width <= 11 ? 1 : 29);
        }
        inversesInvert();
        Check.end();
    }

    private static void knownAnswers() {
        ConstantDivider x = new ConstantDivider();
        int[][] unsigned = {{3, 171, 1}, {5, 205, 2}, {6, 171, 2}, {7, 293, 3}, {10, 205, 3}, {14, 293, 4},
            {255, 129, 7}, {1, 0, 0}, {2, 0, 1}, {16, 0, 4}, {128, 0, 7}};
        for (int[] row : unsigned) {
            Check.due("multiplier(" + row[0] + ")", x.multiplier(row[0]), row[1]);
            Check.due("shift(" + row[0] + ")", x.shift(row[0]), row[2]);
        }
        int[][] signed = {{3, 86}, {5, 103}, {7, 147}, {1, 0}, {2, 0}, {64, 0}};
        for (int[] row : signed) {
            Check.due("signedMultiplier(" + row[0] + ")", x.signedMultiplier(row[0]), row[1]);
        }
        int[][] inverses = {{1, 1}, {3, 171}, {5, 205}, {7, 183}, {255, 255}};
        for (int[] row : inverses) {
            Check.due("inverse(" + row[0] + ")", x.inverse(row[0]), row[1]);
        }
        int[][] digits = {{0, 0}, {1, 1}, {2, 1}, {3, 2}, {7, 2}, {11, 3}, {85, 4}, {170, 4}, {171, 4}, {128, 1},
            {192, 1}, {240, 1}, {255, 1}};
        for (int[] row : digits) {
            Check.due("digits(" + row[0] + ")", x.digits(row[0]), row[1]);
        }
        x.setWidth(9);
        Check.due("digits(255) with 9 bits", x.digits(255), 2);
        Check.due("multiplier(3) with 9 bits", x.multiplier(3), 171);
        Check.due("shift(3) with 9 bits", x.shift(3), 0);
        x.setWidth(16);
        Check.due("multiplier(7) with 16 bits", x.multiplier(7), 74899);
        Check.due("multiplier(10) with 16 bits", x.multiplier(10), 52429);
        Check.due("shift(10) with 16 bits", x.shift(10), 3);
    }

    private static void refusals() {
        for (int width = 4; width <= 16; width++) {
            ConstantDivider x = new ConstantDivider();
            x.setWidth(width);
            x.build(0, 7);
            int size = 1 << width;
            for (int never : NEVER) {
                refused(x, never);
            }
            refused(x, size);
            refused(x, size + 1);
            Check.refused(x, "multiplier(0)", Check.ARGUMENT, () -> x.multiplier(0));
            Check.refused(x, "shift(0)", Check.ARGUMENT, () -> x.shift(0));
            Check.refused(x, "signedMultiplier(0)", Check.ARGUMENT, () -> x.signedMultiplier(0));
            Check.refused(x, "signedMultiplier(half)", Check.ARGUMENT, () -> x.signedMultiplier(size / 2));
            for (int even : new int[] {0, 2, 4, size / 2, size - 2}) {
                Check.refused(x, "inverse(" + even + ")", Check.ARGUMENT, () -> x.inverse(even));
            }
            Check.due("the constants are no edits", x.undo(), 1);
        }
    }

    private static void refused(ConstantDivider x, int number) {
        Check.refused(x, "multiplier(" + number + ")", Check.ARGUMENT, () -> x.multiplier(number));
        Check.refused(x, "shift(" + number + ")", Check.ARGUMENT, () -> x.shift(number));
        Check.refused(x, "signedMultiplier(" + number + ")", Check.ARGUMENT, () -> x.signedMultiplier(number));
        Check.refused(x, "inverse(" + number + ")", Check.ARGUMENT, () -> x.inverse(number));
        Check.refused(x, "digits(" + number + ")", Check.ARGUMENT, () -> x.digits(number));
    }

    private static void againstModel(int width, int step) {
        ConstantDivider x = new ConstantDivider();
        PlainModel model = new PlainModel();
        x.setWidth(width);
        model.setWidth(width);
        int greatest = (1 << width) - 1;
        for (int d = 0; d <= greatest; d = nextOf(d, step, greatest)) {
            String of = "(" + d + ") with " + width + " bits";
            Check.due("digits" + of, x.digits(d), model.digits(d));
            if (d >= 1) {
                Check.due("multiplier" + of, x.multiplier(d), model.multiplier(d));
                Check.due("shift" + of, x.shift(d), model.shift(d));
            }
            if (d >= 1 && d <= greatest >> 1) {
                Check.due("signedMultiplier" + of, x.signedMultiplier(d), model.signedMultiplier(d));
            }
            if (d % 2 == 1) {
                Check.due("inverse" + of, x.inverse(d), model.inverse(d));
            }
        }
    }

    /** Steps, but leaves out none near the ends and the middle. */
    private static int nextOf(int d, int step, int greatest) {
        boolean edge = d < 300 || d > greatest - 100 || Math.abs(d - greatest / 2) < 100;
        return d + (edge ? 1 : step);
    }

    private static void inversesInvert() {
        for (int width = 4; width <= 16; width++) {
            ConstantDivider x = new ConstantDivider();
            x.setWidth(width);
            int size = 1 << width;
            for (int e = 1; e < size; e += 2) {
                long i = x.inverse(e);
                Check.due("e * inverse(e) with " + width + " bits", i * e % size, 1);
                Check.due("inverse(e) is in its range", i >= 1 && i < size, true);
            }
        }
    }
}
