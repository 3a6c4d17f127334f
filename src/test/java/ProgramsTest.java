/** Promises 11 to 24: setTask, append, setResult, drop, tidy, undo and what tells of a program. */
public final class ProgramsTest {
    public static void main(String[] args) {
        tasks();
        appends();
        appendRefusals();
        fullProgram();
        results();
        drops();
        tidyMerges();
        tidyKeepsWhatDiffers();
        tidyRemovesUnneeded();
        undoEachEdit();
        undoEightAtMost();
        undoNothing();
        instructionsTold();
        costsAndDepths();
        listings();
        Check.end();
    }

    private static void tasks() {
        ConstantDivider x = new ConstantDivider();
        x.append(1, false, 0, true, 1);
        Check.due("setTask(0, 2)", x.setTask(0, 2), -1);
        Check.due("setTask leaves the program", Check.listing(x), "v1 = shr v0, 1\nreturn v1\n");
        Check.due("wrong() then", x.wrong(), 0);
        int previous = 0;
        for (int kind = 0; kind < 8; kind++) {
            Check.due("setTask(" + kind + ", 3)", x.setTask(kind, 3), previous);
            previous = kind;
        }
        for (int[] allowed : new int[][] {{0, 1}, {0, 255}, {1, 1}, {1, 255}, {2, -128}, {2, 127}, {2, -1}, {3, -128},
            {3, 127}, {4, 1}, {4, 127}, {5, 1}, {5, 255}, {6, 2}, {6, 255}, {7, 0}, {7, 255}}) {
            Check.due("setTask(" + allowed[0] + ", " + allowed[1] + ")", x.setTask(allowed[0], allowed[1]), previous);
            previous = allowed[0];
        }
        x.setWidth(4);
        Check.refused(x, "setTask(0, 16) with 4 bits", Check.ARGUMENT, () -> x.setTask(0, 16));
        Check.due("setTask(0, 15) with 4 bits", x.setTask(0, 15), -1);
        x.setWidth(16);
        Check.due("setTask(0, 65535) with 16 bits", x.setTask(0, 65535), -1);
        Check.due("setTask(2, -32768) with 16 bits", x.setTask(2, -32768), 0);
    }

    private static void appends() {
        ConstantDivider x = new ConstantDivider();
        for (int op = 0; op < 12; op++) {
            Check.due("append(" + op + ")", x.append(op, false, op, true, 7), op + 1);
            Check.due("its value is the result", x.result(), op + 1);
            Check.due("operation(" + op + ")", x.operation(op), op);
        }
        x.setResult(0);
        Check.due("append with constants alone", x.append(3, true, 255, true, 0), 13);
        Check.due("its value is the result", x.result(), 13);
        Check.due("append of the newest value twice", x.append(4, false, 13, false, 13), 14);
        Check.due("a shift of a constant", x.append(0, true, 255, true, 0), 15);
        Check.due("a constant on the left", x.append(4, true, 9, false, 0), 16);
        Check.due("the last lines", Check.listing(x).substring(Check.listing(x).indexOf("v13 = ")),
                "v13 = add 255, 0\nv14 = sub v13, v13\nv15 = shl 255, 0\nv16 = sub 9, v0\nreturn v16\n");
        x.setTask(1, 3);
        x.append(8, false, 0, true, 1);
        Check.due("append leaves the task", x.expected(5), 2);
    }

    private static void refusedAppend(ConstantDivider x, int op, boolean isConstantA, int a, boolean isConstantB, int b) {
        String call = "append(" + op + ", " + isConstantA + ", " + a + ", " + isConstantB + ", " + b + ")";
        Check.refused(x, call, Check.ARGUMENT, () -> x.append(op, isConstantA, a, isConstantB, b));
    }

    private static void appendRefusals() {
        ConstantDivider x = new ConstantDivider();
        x.append(3, false, 0, false, 0);
        x.append(3, false, 1, false, 0);
        for (int op : new int[] {-1, 12, Integer.MIN_VALUE, Integer.MAX_VALUE}) {
            refusedAppend(x, op, false, 0, true, 0);
        }
        for (int op = 0; op < 12; op++) {
            for (int value : new int[] {3, -1, 41, Integer.MIN_VALUE, Integer.MAX_VALUE}) {
                refusedAppend(x, op, false, value, true, 0);
                refusedAppend(x, op, false, 0, false, value);
            }
            for (int constant : new int[] {256, -1, 65536, Integer.MIN_VALUE, Integer.MAX_VALUE}) {
                refusedAppend(x, op, true, constant, true, 0);
                refusedAppend(x, op, false, 0, true, constant);
            }
        }
        for (int op : new int[] {0, 1, 2, 10}) {
            refusedAppend(x, op, false, 0, true, 8);
            refusedAppend(x, op, false, 0, true, 255);
            refusedAppend(x, op, false, 0, false, 0);
            refusedAppend(x, op, true, 1, false, 1);
        }
        Check.due("undo() behind refusals", x.undo(), 1);
        x.setWidth(16);
        Check.due("a shift by 15 with 16 bits", x.append(10, true, 65535, true, 15), 1);
        refusedAppend(x, 10, true, 65535, true, 16);
        x.setWidth(4);
        refusedAppend(x, 1, false, 0, true, 4);
        refusedAppend(x, 3, false, 0, true, 16);
        Check.due("a constant 15 with 4 bits", x.append(3, false, 0, true, 15), 1);
    }

    private static void fullProgram() {
        ConstantDivider x = new ConstantDivider();
        for (int i = 0; i < 40; i++) {
            Check.due("append " + i, x.append(3, false, i, true, 1), i + 1);
        }
        Check.refused(x, "append to 40", Check.STATE, () -> x.append(3, false, 40, true, 1));
        Check.refused(x, "append to 40 of a wrong operation", Check.ARGUMENT, () -> x.append(12, false, 0, true, 1));
        Check.refused(x, "append to 40 of a wrong value", Check.ARGUMENT, () -> x.append(3, false, 41, true, 1));
        Check.refused(x, "append to 40 of a wrong shift", Check.ARGUMENT, () -> x.append(0, false, 0, true, 8));
        Check.due("run(1) of 40", x.run(1), 41);
        Check.due("valueOf(250, 40)", x.valueOf(250, 40), 34);
        Check.due("depth() of 40", x.depth(), 40);
        Check.due("cost() of 40", x.cost(), 40);
        Check.due("tidy() of 40", x.tidy(), 0);
        Check.due("undo() of tidy", x.undo(), 7);
        Check.due("drop() of 40", x.drop(), 39);
        Check.due("append again", x.append(5, false, 39, false, 39), 40);
        Check.due("setResult(40)", x.setResult(40), 40);
        Check.due("build replaces 40", x.build(0, 10), 2);
        x.undo();
        Check.due("40 again", x.instructions(), 40);
        Check.due("setWidth replaces 40", x.setWidth(16), 8);
        for (int i = 0; i < 40; i++) {
            x.append(7, true, 65535, true, 65535);
        }
        Check.due("the longest listing", Check.listing(x).length(), 9 * 24 + 31 * 25 + 11);
        Check.due("tidy() of 40 equal ones", x.tidy(), 39);
    }

    private static void results() {
        ConstantDivider x = new ConstantDivider();
        Check.due("setResult(0) of an empty program", x.setResult(0), 0);
        Check.refused(x, "setResult(1) of an empty program", Check.INDEX, () -> x.setResult(1));
        x.build(0, 7);
        Check.due("setResult(1)", x.setResult(1), 5);
        Check.due("result()", x.result(), 1);
        Check.due("run(255)", x.run(255), 36);
        Check.due("setResult(5)", x.setResult(5), 1);
        Check.due("setResult(0)", x.setResult(0), 5);
        Check.due("run(255) of value 0", x.run(255), 255);
        Check.due("setResult leaves the instructions", x.instructions(), 5);
        for (int value : new int[] {6, -1, 40, 41, Integer.MIN_VALUE, Integer.MAX_VALUE}) {
            Check.refused(x, "setResult(" + value + ")", Check.INDEX, () -> x.setResult(value));
        }
    }

    private static void drops() {
        ConstantDivider x = new ConstantDivider();
        Check.refused(x, "drop() of an empty program", Check.STATE, () -> x.drop());
        x.build(0, 7);
        Check.due("drop() of the result", x.drop(), 4);
        Check.due("the value before it is the result", x.result(), 4);
        x.setResult(2);
        Check.due("drop() behind the result", x.drop(), 3);
        Check.due("the result stays", x.result(), 2);
        Check.due("the task stays", x.expected(50), 7);
        Check.due("drop() to 2", x.drop(), 2);
        Check.due("result 2 stays", x.result(), 2);
        Check.due("drop() to 1", x.drop(), 1);
        Check.due("result 1", x.result(), 1);
        Check.due("drop() to 0", x.drop(), 0);
        Check.due("result 0", x.result(), 0);
        Check.refused(x, "drop() of nothing", Check.STATE, () -> x.drop());
        Check.due("undo() behind drops", x.undo(), 6);
        Check.due("1 again", x.instructions(), 1);
        x.setResult(0);
        Check.due("drop() with result 0", x.drop(), 0);
        Check.due("result 0 stays", x.result(), 0);
    }

    private static void tidied(ConstantDivider x, int removed, String listing) {
        Check.due("tidy()", x.tidy(), removed);
        Check.due("tidied", Check.listing(x), listing);
        Check.due("tidy() again", x.tidy(), 0);
        Check.due("tidied again", Check.listing(x), listing);
    }

    private static void tidyMerges() {
        ConstantDivider x = new ConstantDivider();
        tidied(x, 0, "return v0\n");
        x.append(5, false, 0, true, 3);
        x.append(5, false, 0, true, 3);
        x.append(3, false, 1, true, 5);
        x.append(3, false, 2, true, 5);
        x.append(4, false, 3, false, 4);
        x.setTask(7, 0);
        tidied(x, 2, "v1 = mul v0, 3\nv2 = add v1, 5\nv3 = sub v2, v2\nreturn v3\n");
        Check.due("tidy leaves the task", x.wrong(), 0);

        ConstantDivider y = new ConstantDivider();
        y.append(3, false, 0, true, 1);
        y.append(3, false, 0, true, 1);
        y.append(3, false, 0, true, 1);
        tidied(y, 2, "v1 = add v0, 1\nreturn v1\n");
        Check.due("the result is replaced", y.run(4), 5);
    }

    private static void tidyKeepsWhatDiffers() {
        ConstantDivider x = new ConstantDivider();
        x.append(3, false, 0, true, 1);
        x.append(3, false, 0, false, 1);
        x.append(3, false, 1, false, 0);
        x.append(3, true, 0, true, 1);
        x.append(9, false, 0, true, 1);
        x.append(3, true, 1, false, 0);
        x.append(8, false, 1, false, 2);
        x.append(8, false, 7, false, 3);
        x.append(8, false, 8, false, 4);
        x.append(8, false, 9, false, 5);
        x.append(8, false, 10, false, 6);
        String before = Check.listing(x);
        tidied(x, 0, before);
    }

    private static void tidyRemovesUnneeded() {
        ConstantDivider x = new ConstantDivider();
        x.append(3, false, 0, true, 1);
        x.append(3, false, 0, true, 2);
        x.append(5, false, 1, false, 1);
        x.append(3, false, 2, true, 3);
        x.append(9, false, 4, false, 0);
        tidied(x, 2, "v1 = add v0, 2\nv2 = add v1, 3\nv3 = xor v2, v0\nreturn v3\n");
        x.append(3, false, 1, true, 9);
        x.setResult(2);
        tidied(x, 2, "v1 = add v0, 2\nv2 = add v1, 3\nreturn v2\n");
        x.setResult(0);
        tidied(x, 2, "return v0\n");
    }

    private static void undoEachEdit() {
        ConstantDivider x = new ConstantDivider();
        x.build(1, 10);
        x.append(3, false, 0, false, 0);
        x.append(3, false, 0, false, 0);
        Check.Call[] edits = {() -> x.setWidth(5), () -> x.setWidth(8), () -> x.build(0, 7), () -> x.setTask(7, 9),
            () -> x.append(9, false, 0, true, 1), () -> x.setResult(0), () -> x.drop(), () -> x.tidy()};
        String before = Check.seen(x);
        for (int i = 0; i < edits.length; i++) {
            edits[i].make();
            Check.due("undo() of edit " + i, x.undo(), 3);
            Check.due("undone edit " + i, Check.seen(x), before);
        }
        x.setResult(x.result());
        Check.due("undo() of setResult to the same", x.undo(), 3);
        Check.due("undo() of append", x.undo(), 2);
        Check.due("undo() of append", x.undo(), 1);
        Check.due("build is left", x.instructions(), 6);
        Check.due("undo() of build", x.undo(), 0);
        Check.due("all undone", Check.seen(x), Check.seen(new ConstantDivider()));
    }

    private static void undoEightAtMost() {
        ConstantDivider x = new ConstantDivider();
        String[] states = new String[12];
        for (int i = 0; i < 12; i++) {
            states[i] = Check.seen(x);
            x.append(i, false, i, true, i % 8);
        }
        for (int left = 7; left >= 5; left--) {
            Check.due("undo() of the latest", x.undo(), left);
            Check.due("undone", Check.seen(x), states[4 + left]);
        }
        x.drop();
        x.append(9, true, 1, true, 2);
        Check.due("undo() of append", x.undo(), 6);
        Check.due("undo() of drop", x.undo(), 5);
        Check.due("undone drop", Check.seen(x), states[9]);
        for (int left = 4; left >= 0; left--) {
            Check.due("undo() of the older ones", x.undo(), left);
            Check.due("undone", Check.seen(x), states[4 + left]);
        }
        Check.refused(x, "undo() of the ninth", Check.STATE, () -> x.undo());
        for (int i = 0; i < 9; i++) {
            x.setTask(0, i + 1);
        }
        for (int left = 7; left >= 0; left--) {
            Check.due("undo() of a task", x.undo(), left);
            Check.due("the task before", x.expected(200), 200 / (left + 1));
        }
        Check.refused(x, "undo() of the ninth task", Check.STATE, () -> x.undo());
    }

    private static void undoNothing() {
        ConstantDivider x = new ConstantDivider();
        Check.refused(x, "undo() at first", Check.STATE, () -> x.undo());
        x.build(0, 3);
        x.run(3);
        x.wrong();
        x.multiplier(3);
        x.leastRaise(3);
        Check.due("undo() of the one edit", x.undo(), 0);
        Check.refused(x, "undo() is not undone", Check.STATE, () -> x.undo());
    }

    private static void instructionsTold() {
        ConstantDivider x = new ConstantDivider();
        Check.refused(x, "operation(0) of nothing", Check.INDEX, () -> x.operation(0));
        Check.refused(x, "operand(0, 0) of nothing", Check.INDEX, () -> x.operand(0, 0));
        Check.refused(x, "isConstant(0, 0) of nothing", Check.INDEX, () -> x.isConstant(0, 0));
        x.append(4, true, 0, false, 0);
        x.append(0, false, 1, true, 7);
        x.append(5, true, 255, true, 1);
        int[][] due = {{4, 0, 1, 0, 0}, {0, 1, 0, 7, 1}, {5, 255, 1, 1, 1}};
        for (int i = 0; i < 3; i++) {
            Check.due("operation(" + i + ")", x.operation(i), due[i][0]);
            Check.due("operand(" + i + ", 0)", x.operand(i, 0), due[i][1]);
            Check.due("isConstant(" + i + ", 0)", x.isConstant(i, 0), due[i][2] == 1);
            Check.due("operand(" + i + ", 1)", x.operand(i, 1), due[i][3]);
            Check.due("isConstant(" + i + ", 1)", x.isConstant(i, 1), due[i][4] == 1);
        }
        Check.due("instructions()", x.instructions(), 3);
        for (int i : new int[] {3, -1, 40, Integer.MIN_VALUE, Integer.MAX_VALUE}) {
            Check.refused(x, "operation(" + i + ")", Check.INDEX, () -> x.operation(i));
            Check.refused(x, "operand(" + i + ", 0)", Check.INDEX, () -> x.operand(i, 0));
            Check.refused(x, "isConstant(" + i + ", 1)", Check.INDEX, () -> x.isConstant(i, 1));
        }
        for (int side : new int[] {2, -1, Integer.MIN_VALUE, Integer.MAX_VALUE}) {
            Check.refused(x, "operand(0, " + side + ")", Check.INDEX, () -> x.operand(0, side));
            Check.refused(x, "isConstant(0, " + side + ")", Check.INDEX, () -> x.isConstant(0, side));
        }
        x.drop();
        Check.refused(x, "operation(2) behind drop", Check.INDEX, () -> x.operation(2));
    }

    private static void costsAndDepths() {
        ConstantDivider x = new ConstantDivider();
        int[] costs = {1, 1, 1, 1, 1, 3, 5, 5, 1, 1, 1, 1};
        int sum = 0;
        for (int op = 0; op < 12; op++) {
            x.append(op, false, 0, true, 1);
            sum += costs[op];
            Check.due("cost() with operation " + op, x.cost(), sum);
            Check.due("depth() of one operation", x.depth(), 1);
        }
        x.setResult(0);
        Check.due("cost() counts all instructions", x.cost(), sum);
        Check.due("depth() of value 0", x.depth(), 0);
        x.append(3, true, 1, true, 2);
        Check.due("depth() of constants", x.depth(), 1);
        x.append(3, false, 1, false, 0);
        Check.due("depth() over value 1", x.depth(), 2);
        x.append(3, false, 0, false, 14);
        Check.due("depth() by the second operand", x.depth(), 3);
        x.append(3, false, 15, false, 1);
        Check.due("depth() by the first operand", x.depth(), 4);
        x.setResult(14);
        Check.due("depth() of value 14", x.depth(), 2);
        x.setCost(2, 10);
        Check.due("cost() with other costs", x.cost(), 3 + 5 + 5 + 13 * 10);
    }

    private static void listings() {
        ConstantDivider x = new ConstantDivider();
        Check.due("listing of nothing", Check.listing(x), "return v0\n");
        Check.due("listingChar(10)", x.listingChar(10), -1);
        Check.due("listingChar(greatest)", x.listingChar(Integer.MAX_VALUE), -1);
        x.setWidth(16);
        String want = "";
        String[] names = {"shl", "shr", "sar", "add", "sub", "mul", "mulhu", "mulhs", "and", "xor", "ror", "leu"};
        int[] constants = {0, 9, 10, 11, 100, 101, 999, 1000, 9999, 10000, 10010, 65535};
        for (int op = 0; op < 12; op++) {
            int b = op <= 2 || op == 10 ? op : constants[op];
            x.append(op, op % 2 == 0, op % 2 == 0 ? constants[op] : op, true, b);
            want += "v" + (op + 1) + " = " + names[op] + (op % 2 == 0 ? " " + constants[op] : " v" + op) + ", " + b + "\n";
        }
        x.setResult(10);
        want += "return v10\n";
        Check.due("listing", Check.listing(x), want);
        Check.due("its last line feed", x.listingChar(want.length() - 1), 10);
        Check.due("behind it", x.listingChar(want.length()), -1);
        Check.refused(x, "listingChar(-1)", Check.INDEX, () -> x.listingChar(-1));
        Check.refused(x, "listingChar(least)", Check.INDEX, () -> x.listingChar(Integer.MIN_VALUE));
    }
}
