/** The boundary cases of "Numbers" and "Operations": wrap-around, signed meaning, shifts of 0 to w - 1 bits. */
public final class BoundsOfOperationsTest {
    private final int w;
    private final int top;
    private final int half;
    private final int quarter;

    private BoundsOfOperationsTest(int width) {
        w = width;
        top = (1 << w) - 1;
        half = 1 << (w - 1);
        quarter = 1 << (w - 2);
    }

    public static void main(String[] args) {
        for (int width = Bounds.LEAST_WIDTH; width <= Bounds.GREATEST_WIDTH; width++) {
            BoundsOfOperationsTest test = new BoundsOfOperationsTest(width);
            test.shiftsToTheLeft();
            test.shiftsToTheRight();
            test.signedShifts();
            test.rotations();
            test.sumsAndDifferences();
            test.products();
            test.highUnsignedProducts();
            test.highSignedProducts();
            test.bitByBit();
            test.comparisons();
            test.shiftsFromZeroToWidthLessOne();
            test.shiftsByConstantsAlone();
        }
        Check.end();
    }

    /** Each operand once as the input and once as a constant; a shift's second one is always a constant. */
    private void due(int op, int a, int b, int want) {
        String text = "operation " + op + " of " + a + " and " + b + " with " + w + " bits";
        ConstantDivider x = Bounds.ofWidth(w);
        x.append(op, false, 0, true, b);
        Check.due(text + ", the first is the input", x.run(a), want);
        x.append(op, true, a, true, b);
        Check.due(text + ", constants", x.run(top), want);
        if (!shifts(op)) {
            x.append(op, true, a, false, 0);
            Check.due(text + ", the second is the input", x.run(b), want);
            // Value 0 is a; a xor (a xor b) is b.
            x.append(9, false, 0, true, a ^ b);
            x.append(op, false, 0, false, 4);
            Check.due(text + ", both are values", x.run(a), want);
        }
    }

    private static boolean shifts(int op) {
        return op <= 2 || op == 10;
    }

    /** "0 shl: a * 2^b modulo 2^w" */
    private void shiftsToTheLeft() {
        due(0, top, 0, top);
        due(0, top, 1, top - 1);
        due(0, 1, w - 1, half);
        due(0, top, w - 1, half);
        due(0, 2, w - 1, 0);
        due(0, half, 1, 0);
        due(0, half - 1, 1, top - 1);
        due(0, 0, w - 1, 0);
    }

    /** "1 shr: floor(a / 2^b)" */
    private void shiftsToTheRight() {
        due(1, top, 0, top);
        due(1, top, 1, half - 1);
        due(1, top, w - 1, 1);
        due(1, half, w - 1, 1);
        due(1, half - 1, w - 1, 0);
        due(1, 0, w - 1, 0);
        due(1, 1, 1, 0);
    }

    /** "v if v < 2^(w-1), and v - 2^w otherwise"; "2 sar: the value of floor(A / 2^b)" */
    private void signedShifts() {
        due(2, half - 1, 0, half - 1);
        due(2, half - 1, 1, quarter - 1);
        due(2, half - 1, w - 1, 0);
        due(2, half, 0, half);
        due(2, half, 1, half + quarter);
        due(2, half, w - 1, top);
        due(2, top, 0, top);
        due(2, top, 1, top);
        due(2, top, w - 1, top);
        due(2, 0, w - 1, 0);
    }

    /** "10 ror: .. floor(a / 2^b) + (a modulo 2^b) * 2^(w - b)" */
    private void rotations() {
        due(10, top, 0, top);
        due(10, 1, 0, 1);
        due(10, 1, 1, half);
        due(10, 1, w - 1, 2);
        due(10, half, w - 1, 1);
        due(10, half, 1, quarter);
        due(10, top, w - 1, top);
        due(10, top - 1, 1, half - 1);
        due(10, 0, w - 1, 0);
    }

    /** "3 add: (a + b) modulo 2^w; 4 sub: the value of a - b" */
    private void sumsAndDifferences() {
        due(3, top, 0, top);
        due(3, top, 1, 0);
        due(3, 1, top, 0);
        due(3, top - 1, 1, top);
        due(3, top, top, top - 1);
        due(3, half, half, 0);
        due(3, half - 1, 1, half);
        due(4, 0, 0, 0);
        due(4, 0, 1, top);
        due(4, 0, top, 1);
        due(4, top, top, 0);
        due(4, top, 0, top);
        due(4, 0, half, half);
        due(4, half, 1, half - 1);
    }

    /** "5 mul: (a * b) modulo 2^w" */
    private void products() {
        due(5, top, 0, 0);
        due(5, top, 1, top);
        due(5, top, top, 1);
        due(5, half, 2, 0);
        due(5, half - 1, 2, top - 1);
        due(5, half, top, half);
        due(5, half, half, 0);
    }

    /** "6 mulhu: floor(a * b / 2^w)" */
    private void highUnsignedProducts() {
        due(6, top, top, top - 1);
        due(6, top, 0, 0);
        due(6, top, 1, 0);
        due(6, top, 2, 1);
        due(6, half, 2, 1);
        due(6, half - 1, 2, 0);
        due(6, half, half, quarter);
    }

    /** "7 mulhs: the value of floor(A * B / 2^w), where A and B are the signed meanings of a and b" */
    private void highSignedProducts() {
        due(7, half, half, quarter);
        due(7, half, half - 1, top + 1 - quarter);
        due(7, half - 1, half, top + 1 - quarter);
        due(7, half - 1, half - 1, quarter - 1);
        due(7, half, top, 0);
        due(7, half, 1, top);
        due(7, half, 2, top);
        due(7, half, 3, top - 1);
        due(7, half - 1, 2, 0);
        due(7, half - 1, 3, 1);
        due(7, top, 1, top);
        due(7, top, top, 0);
        due(7, top, 0, 0);
    }

    /** "8 and, 9 xor: bit by bit" */
    private void bitByBit() {
        due(8, top, 0, 0);
        due(8, top, top, top);
        due(8, top, half, half);
        due(8, half, half - 1, 0);
        due(9, top, 0, top);
        due(9, top, top, 0);
        due(9, top, half, half - 1);
        due(9, half, half - 1, top);
    }

    /** "11 leu: 1 if a <= b, otherwise 0" */
    private void comparisons() {
        due(11, 0, 0, 1);
        due(11, 1, 0, 0);
        due(11, 0, 1, 1);
        due(11, top, top, 1);
        due(11, top, top - 1, 0);
        due(11, top - 1, top, 1);
        due(11, half, half - 1, 0);
        due(11, half - 1, half, 1);
        due(11, half, half, 1);
        due(11, 0, top, 1);
        due(11, top, 0, 0);
    }

    /** "In these four, b is a constant from 0 to w - 1." */
    private void shiftsFromZeroToWidthLessOne() {
        for (int op : new int[] {0, 1, 2, 10}) {
            Bounds.range("append(" + op + ", value 0, constant b), b is ", 0, w - 1, Check.ARGUMENT,
                    () -> Bounds.chain(w, 1), (x, b) -> x.append(op, false, 0, true, b));
            // A constant of the machine, but no number of bits to shift by.
            Bounds.refused("a shift by 2^w - 1 bits", Check.ARGUMENT,
                    () -> Bounds.chain(w, 1), x -> x.append(op, false, 0, true, top));
        }
        for (int op : new int[] {3, 4, 5, 6, 7, 8, 9, 11}) {
            Bounds.range("append(" + op + ", value 0, constant b), b is ", 0, top, Check.ARGUMENT,
                    () -> Bounds.chain(w, 1), (x, b) -> x.append(op, false, 0, true, b));
            Bounds.allowed("operation " + op + " with the constant w", () -> Bounds.ofWidth(w),
                    x -> x.append(op, false, 0, true, w));
        }
    }

    /** "In these four, b is a constant": no value, whatever its number; what is shifted may be a constant. */
    private void shiftsByConstantsAlone() {
        for (int op : new int[] {0, 1, 2, 10}) {
            for (int value = 0; value <= 1; value++) {
                int b = value;
                Bounds.refused("a shift by value " + b, Check.ARGUMENT,
                        () -> Bounds.chain(w, 1), x -> x.append(op, false, 0, false, b));
                Bounds.refused("a shift of a constant by value " + b, Check.ARGUMENT,
                        () -> Bounds.chain(w, 1), x -> x.append(op, true, 1, false, b));
            }
            Bounds.range("append(" + op + ", constant a, constant 1), a is ", 0, top, Check.ARGUMENT,
                    () -> Bounds.chain(w, 1), (x, a) -> x.append(op, true, a, true, 1));
        }
    }
}
