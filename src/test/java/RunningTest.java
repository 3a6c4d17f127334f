/** Promises 25 to 29: run, valueOf, expected, firstWrong, wrong. */
public final class RunningTest {
    public static void main(String[] args) {
        operations();
        allOperandsOfFourBits();
        values();
        meanings();
        wrongs();
        refusals();
        Check.end();
    }

    private static void ran(int width, int op, int a, int b, int want) {
        ConstantDivider x = new ConstantDivider();
        x.setWidth(width);
        x.append(op, false, 0, true, b);
        Check.due("operation " + op + " of " + a + " and " + b + " with " + width + " bits", x.run(a), want);
    }

    private static void operations() {
        ran(8, 0, 255, 7, 128);
        ran(8, 0, 3, 0, 3);
        ran(16, 0, 65535, 15, 32768);
        ran(8, 1, 255, 7, 1);
        ran(8, 2, 128, 7, 255);
        ran(8, 2, 127, 3, 15);
        ran(8, 2, 200, 0, 200);
        ran(8, 3, 255, 2, 1);
        ran(8, 4, 1, 2, 255);
        ran(8, 5, 255, 255, 1);
        ran(16, 5, 65535, 65535, 1);
        ran(16, 5, 65535, 65534, 2);
        ran(8, 6, 255, 255, 254);
        ran(16, 6, 65535, 65535, 65534);
        ran(8, 7, 128, 128, 64);
        ran(8, 7, 128, 127, 192);
        ran(8, 7, 255, 1, 255);
        ran(8, 7, 255, 255, 0);
        ran(16, 7, 32768, 32768, 16384);
        ran(16, 7, 32768, 32767, 49152);
        ran(8, 8, 170, 204, 136);
        ran(8, 9, 170, 204, 102);
        ran(8, 10, 1, 1, 128);
        ran(8, 10, 0x96, 4, 0x69);
        ran(8, 10, 0x96, 0, 0x96);
        ran(16, 10, 0x1234, 12, 0x2341);
        ran(8, 11, 5, 5, 1);
        ran(8, 11, 6, 5, 0);
        ran(8, 11, 128, 127, 0);
        ran(8, 11, 127, 128, 1);
    }

    private static void allOperandsOfFourBits() {
        for (int width : new int[] {4, 5, 16}) {
            for (int op = 0; op < 12; op++) {
                boolean shift = op <= 2 || op == 10;
                for (int b = 0; b < (shift ? width : 32); b++) {
                    int constant = shift || b < 16 ? b : (1 << width) - 32 + b;
                    ConstantDivider x = new ConstantDivider();
                    PlainModel model = new PlainModel();
                    x.setWidth(width);
                    model.setWidth(width);
                    x.append(op, false, 0, true, constant);
                    model.append(op, false, 0, true, constant);
                    for (int a = 0; a < 1 << width; a += width == 16 ? 1021 : 1) {
                        Check.due("operation " + op + " of " + a + ", " + constant, x.run(a), model.run(a));
                    }
                }
            }
        }
    }

    private static void values() {
        ConstantDivider x = new ConstantDivider();
        Check.due("valueOf(9, 0) of nothing", x.valueOf(9, 0), 9);
        x.build(0, 7);
        int[] due = {200, 28, 172, 86, 114, 28};
        for (int value = 0; value <= 5; value++) {
            Check.due("valueOf(200, " + value + ")", x.valueOf(200, value), due[value]);
        }
        x.setResult(3);
        Check.due("valueOf behind the result", x.valueOf(200, 5), 28);
        Check.due("run of the result", x.run(200), 86);
        Check.due("valueOf(255, 0)", x.valueOf(255, 0), 255);
    }

    private static void meaning(int kind, int d, int[][] rows) {
        ConstantDivider x = new ConstantDivider();
        x.setTask(kind, d);
        for (int[] row : rows) {
            Check.due("expected(" + row[0] + ") of " + kind + ", " + d, x.expected(row[0]), row[1]);
        }
    }

    private static void meanings() {
        meaning(0, 7, new int[][] {{0, 0}, {6, 0}, {7, 1}, {255, 36}});
        meaning(1, 7, new int[][] {{0, 0}, {6, 6}, {7, 0}, {255, 3}});
        meaning(2, 7, new int[][] {{100, 14}, {156, 242}, {255, 0}, {128, 238}});
        meaning(2, -7, new int[][] {{100, 242}, {156, 14}, {250, 0}, {249, 1}});
        meaning(2, -1, new int[][] {{128, 128}, {127, 129}, {1, 255}});
        meaning(2, -128, new int[][] {{128, 1}, {127, 0}, {129, 0}});
        meaning(3, 7, new int[][] {{100, 2}, {156, 254}, {255, 255}, {0, 0}});
        meaning(3, -7, new int[][] {{100, 2}, {156, 254}, {7, 0}});
        meaning(3, -128, new int[][] {{128, 0}, {129, 129}, {127, 127}});
        meaning(4, 7, new int[][] {{100, 14}, {156, 241}, {255, 255}, {249, 255}, {248, 254}});
        meaning(5, 7, new int[][] {{0, 0}, {7, 1}, {8, -1}, {252, 36}, {255, -1}});
        meaning(5, 1, new int[][] {{0, 0}, {255, 255}});
        meaning(6, 7, new int[][] {{0, 1}, {7, 1}, {8, 0}, {252, 1}});
        meaning(7, 7, new int[][] {{0, 0}, {37, 3}, {255, 249}});
        meaning(7, 0, new int[][] {{0, 0}, {255, 0}});
        ConstantDivider x = new ConstantDivider();
        x.setWidth(16);
        x.setTask(7, 65535);
        Check.due("expected(65535) of 7, 65535", x.expected(65535), 1);
    }

    private static void wrongs() {
        ConstantDivider x = new ConstantDivider();
        x.setTask(7, 1);
        Check.due("wrong() of the input itself", x.wrong(), 0);
        Check.due("firstWrong(255) of the input itself", x.firstWrong(255), -1);
        x.setTask(7, 0);
        Check.due("wrong() of all but 0", x.wrong(), 255);
        Check.due("firstWrong(0)", x.firstWrong(0), 1);
        Check.due("firstWrong(1)", x.firstWrong(1), 1);
        Check.due("firstWrong(255)", x.firstWrong(255), 255);
        x.setTask(5, 10);
        Check.due("wrong() of an exact quotient", x.wrong(), 25);
        Check.due("firstWrong(0) of an exact quotient", x.firstWrong(0), 10);
        Check.due("firstWrong(11) of an exact quotient", x.firstWrong(11), 20);
        Check.due("firstWrong(251) of an exact quotient", x.firstWrong(251), -1);
        x.build(0, 10);
        x.setTask(5, 10);
        Check.due("a quotient is an exact quotient", x.wrong(), 0);
        x.setTask(0, 11);
        Check.due("firstWrong(0) of another divisor", x.firstWrong(0), 10);
        Check.due("firstWrong(11) of another divisor", x.firstWrong(11), 20);
        x.setResult(0);
        Check.due("the result counts", x.firstWrong(0), 1);
        x.setWidth(16);
        x.append(6, false, 0, true, 1 << 15);
        x.setTask(0, 2);
        Check.due("wrong() with 16 bits", x.wrong(), 0);
        x.setTask(0, 65535);
        Check.due("firstWrong(0) with 16 bits", x.firstWrong(0), 2);
        Check.due("wrong() with 16 bits of all from 2 on", x.wrong(), 65534);
        x.setTask(2, 2);
        Check.due("wrong() of negative ones alone", x.wrong(), 32768);
        Check.due("firstWrong(0) of negative ones alone", x.firstWrong(0), 32768);
    }

    private static void refusals() {
        for (int width : new int[] {4, 8, 16}) {
            ConstantDivider x = new ConstantDivider();
            x.setWidth(width);
            for (int input : new int[] {-1, 1 << width, Integer.MIN_VALUE, Integer.MAX_VALUE}) {
                refusedInput(x, input);
            }
            Check.refused(x, "expected(0) without a task", Check.STATE, () -> x.expected(0));
            Check.refused(x, "firstWrong(0) without a task", Check.STATE, () -> x.firstWrong(0));
            Check.refused(x, "wrong() without a task", Check.STATE, () -> x.wrong());
            x.build(2, 7);
            for (int input : new int[] {-1, 1 << width, Integer.MIN_VALUE, Integer.MAX_VALUE}) {
                refusedInput(x, input);
            }
            int values = x.instructions() + 1;
            for (int value : new int[] {-1, values, 41, Integer.MIN_VALUE, Integer.MAX_VALUE}) {
                Check.refused(x, "valueOf(0, " + value + ")", Check.INDEX, () -> x.valueOf(0, value));
            }
            Check.due("checks are no edits", x.undo(), 1);
            Check.refused(x, "the task is gone", Check.STATE, () -> x.wrong());
        }
    }

    private static void refusedInput(ConstantDivider x, int input) {
        Check.refused(x, "run(" + input + ")", Check.ARGUMENT, () -> x.run(input));
        Check.refused(x, "valueOf(" + input + ", 0)", Check.ARGUMENT, () -> x.valueOf(input, 0));
        Check.refused(x, "valueOf(" + input + ", -1)", Check.ARGUMENT, () -> x.valueOf(input, -1));
        Check.refused(x, "expected(" + input + ")", Check.ARGUMENT, () -> x.expected(input));
        Check.refused(x, "firstWrong(" + input + ")", Check.ARGUMENT, () -> x.firstWrong(input));
    }
}
