/** Promise 10: the programs that build() writes, for every kind, line by line. */
public final class BuildTest {
    public static void main(String[] args) {
        unsignedQuotients();
        unsignedRemainders();
        signedQuotients();
        signedRemainders();
        floorQuotients();
        exactQuotients();
        divisibility();
        products();
        taskAndResult();
        refusals();
        for (int width = 4; width <= 16; width++) {
            againstModel(width);
        }
        Check.end();
    }

    private static void built(ConstantDivider x, int kind, int d, String... lines) {
        StringBuilder want = new StringBuilder();
        for (int i = 0; i < lines.length; i++) {
            want.append("v").append(i + 1).append(" = ").append(lines[i]).append("\n");
        }
        want.append("return v").append(lines.length).append("\n");
        String call = "build(" + kind + ", " + d + ") with " + x.width() + " bits";
        Check.due(call, x.build(kind, d), lines.length);
        Check.due(call + ": instructions()", x.instructions(), lines.length);
        Check.due(call + ": listing", Check.listing(x), want.toString());
        Check.due(call + ": wrong()", x.wrong(), 0);
    }

    private static void unsignedQuotients() {
        ConstantDivider x = new ConstantDivider();
        built(x, 0, 1);
        built(x, 0, 8, "shr v0, 3");
        built(x, 0, 128, "shr v0, 7");
        built(x, 0, 3, "mulhu v0, 171", "shr v1, 1");
        built(x, 0, 10, "mulhu v0, 205", "shr v1, 3");
        built(x, 0, 7, "mulhu v0, 37", "sub v0, v1", "shr v2, 1", "add v3, v1", "shr v4, 2");
        built(x, 0, 14, "shr v0, 1", "mulhu v1, 147", "shr v2, 2");
        built(x, 0, 255, "mulhu v0, 129", "shr v1, 7");
        x.setWidth(9);
        built(x, 0, 3, "mulhu v0, 171");
        x.setWidth(4);
        built(x, 0, 15, "mulhu v0, 9", "shr v1, 3");
    }

    private static void unsignedRemainders() {
        ConstantDivider x = new ConstantDivider();
        built(x, 1, 1, "and v0, 0");
        built(x, 1, 8, "and v0, 7");
        built(x, 1, 128, "and v0, 127");
        built(x, 1, 10, "mulhu v0, 205", "shr v1, 3", "shl v2, 1", "shl v2, 3", "add v3, v4", "sub v0, v5");
        built(x, 1, 7, "mulhu v0, 37", "sub v0, v1", "shr v2, 1", "add v3, v1", "shr v4, 2",
                "sub 0, v5", "shl v5, 3", "add v6, v7", "sub v0, v8");
        x.setCost(0, 2);
        built(x, 1, 10, "mulhu v0, 205", "shr v1, 3", "mul v2, 10", "sub v0, v3");
    }

    private static void signedQuotients() {
        ConstantDivider x = new ConstantDivider();
        built(x, 2, 1);
        built(x, 2, -1, "sub 0, v0");
        built(x, 2, 2, "shr v0, 7", "add v0, v1", "sar v2, 1");
        built(x, 2, 8, "sar v0, 2", "shr v1, 5", "add v0, v2", "sar v3, 3");
        built(x, 2, 64, "sar v0, 5", "shr v1, 2", "add v0, v2", "sar v3, 6");
        built(x, 2, -128, "sar v0, 6", "shr v1, 1", "add v0, v2", "sar v3, 7", "sub 0, v4");
        built(x, 2, 3, "mulhs v0, 86", "shr v0, 7", "add v1, v2");
        built(x, 2, 5, "mulhs v0, 103", "sar v1, 1", "shr v0, 7", "add v2, v3");
        built(x, 2, 7, "mulhs v0, 147", "add v1, v0", "sar v2, 2", "shr v0, 7", "add v3, v4");
        built(x, 2, -7, "mulhs v0, 147", "add v1, v0", "sar v2, 2", "shr v0, 7", "add v3, v4", "sub 0, v5");
    }

    private static void signedRemainders() {
        ConstantDivider x = new ConstantDivider();
        built(x, 3, 1, "sub v0, v0");
        built(x, 3, -1, "sub 0, v0", "sub 0, v1", "sub v0, v2");
        built(x, 3, 5, "mulhs v0, 103", "sar v1, 1", "shr v0, 7", "add v2, v3",
                "shl v4, 2", "add v4, v5", "sub v0, v6");
        built(x, 3, -5, "mulhs v0, 103", "sar v1, 1", "shr v0, 7", "add v2, v3", "sub 0, v4",
                "sub 0, v5", "shl v5, 2", "sub v6, v7", "sub v0, v8");
        built(x, 3, 2, "shr v0, 7", "add v0, v1", "sar v2, 1", "shl v3, 1", "sub v0, v4");
        built(x, 3, -128, "sar v0, 6", "shr v1, 1", "add v0, v2", "sar v3, 7", "sub 0, v4",
                "shl v5, 7", "sub v0, v6");
    }

    private static void floorQuotients() {
        ConstantDivider x = new ConstantDivider();
        built(x, 4, 1);
        built(x, 4, 8, "sar v0, 3");
        built(x, 4, 64, "sar v0, 6");
        built(x, 4, 10, "sar v0, 7", "xor v0, v1", "mulhu v2, 205", "shr v3, 3", "xor v4, v1");
        built(x, 4, 7, "sar v0, 7", "xor v0, v1", "mulhu v2, 37", "sub v2, v3", "shr v4, 1", "add v5, v3",
                "shr v6, 2", "xor v7, v1");
    }

    private static void exactQuotients() {
        ConstantDivider x = new ConstantDivider();
        built(x, 5, 1);
        built(x, 5, 4, "shr v0, 2");
        built(x, 5, 3, "mul v0, 171");
        built(x, 5, 12, "shr v0, 2", "mul v1, 171");
        built(x, 5, 255, "sub 0, v0");
        x.setCost(0, 6);
        built(x, 5, 12, "shr v0, 2", "mul v1, 171");
        x.setCost(0, 7);
        built(x, 5, 12, "shr v0, 2", "sub 0, v1", "shl v1, 2", "sub v2, v3", "shl v1, 4", "sub v4, v5",
                "shl v1, 6", "sub v6, v7");
    }

    private static void divisibility() {
        ConstantDivider x = new ConstantDivider();
        built(x, 6, 2, "ror v0, 1", "leu v1, 127");
        built(x, 6, 3, "mul v0, 171", "leu v1, 85");
        built(x, 6, 12, "mul v0, 171", "ror v1, 2", "leu v2, 21");
        built(x, 6, 128, "ror v0, 7", "leu v1, 1");
        built(x, 6, 255, "sub 0, v0", "leu v1, 1");
    }

    private static void products() {
        ConstantDivider x = new ConstantDivider();
        built(x, 7, 0, "and v0, 0");
        built(x, 7, 1);
        built(x, 7, 2, "shl v0, 1");
        built(x, 7, 3, "sub 0, v0", "shl v0, 2", "add v1, v2");
        built(x, 7, 128, "shl v0, 7");
        built(x, 7, 192, "shl v0, 6", "sub 0, v1");
        built(x, 7, 255, "sub 0, v0");
        built(x, 7, 85, "mul v0, 85");
        x.setCost(2, 2);
        built(x, 7, 2, "shl v0, 1");
        built(x, 7, 192, "mul v0, 192");
        x.setCost(0, 1);
        built(x, 7, 2, "mul v0, 2");
        built(x, 7, 1);
        built(x, 7, 0, "and v0, 0");
        x.setWidth(16);
        x.setCost(0, 20);
        x.setCost(2, 1);
        built(x, 7, 0x5555, "shl v0, 2", "add v0, v1", "shl v0, 4", "add v2, v3", "shl v0, 6", "add v4, v5",
                "shl v0, 8", "add v6, v7", "shl v0, 10", "add v8, v9", "shl v0, 12", "add v10, v11",
                "shl v0, 14", "add v12, v13");
    }

    private static void taskAndResult() {
        ConstantDivider x = new ConstantDivider();
        x.append(3, false, 0, false, 0);
        x.build(0, 10);
        Check.due("build replaces the former program", x.instructions(), 2);
        Check.due("build sets the result", x.result(), 2);
        Check.due("build sets the task", x.expected(99), 9);
        Check.due("setTask tells build's kind", x.setTask(6, 9), 0);
        x.build(0, 1);
        Check.due("an empty program's result", x.result(), 0);
        Check.due("undo() of build", x.undo(), 3);
        Check.due("undone build: task", x.expected(99), 1);
        Check.due("undone build: program", x.instructions(), 2);
    }

    private static void refusals() {
        ConstantDivider x = new ConstantDivider();
        x.build(4, 10);
        int[][] refused = {{-1, 1}, {8, 1}, {Integer.MIN_VALUE, 1}, {Integer.MAX_VALUE, 1},
            {0, 0}, {0, 256}, {0, -1}, {1, 0}, {1, 256}, {1, -1}, {2, 0}, {2, 128}, {2, -129}, {3, 0}, {3, 128},
            {3, -129}, {4, 0}, {4, 128}, {4, -1}, {5, 0}, {5, 256}, {5, -1}, {6, 1}, {6, 0}, {6, 256}, {6, -2},
            {7, -1}, {7, 256}};
        for (int[] row : refused) {
            String of = "(" + row[0] + ", " + row[1] + ")";
            Check.refused(x, "build" + of, Check.ARGUMENT, () -> x.build(row[0], row[1]));
            Check.refused(x, "setTask" + of, Check.ARGUMENT, () -> x.setTask(row[0], row[1]));
        }
        for (int kind = 0; kind < 8; kind++) {
            int k = kind;
            for (int d : new int[] {Integer.MIN_VALUE, Integer.MAX_VALUE, 65536, -65536}) {
                Check.refused(x, "build(" + k + ", " + d + ")", Check.ARGUMENT, () -> x.build(k, d));
                Check.refused(x, "setTask(" + k + ", " + d + ")", Check.ARGUMENT, () -> x.setTask(k, d));
            }
        }
        Check.due("undo() behind refusals", x.undo(), 0);
    }

    private static void againstModel(int width) {
        int[][] costs = {{3, 5, 1}, {20, 1, 1}, {1, 5, 2}, {9, 20, 2}};
        for (int[] row : costs) {
            for (int kind = 0; kind < 8; kind++) {
                againstModel(width, kind, row);
            }
        }
    }

    private static void againstModel(int width, int kind, int[] costs) {
        ConstantDivider x = new ConstantDivider();
        PlainModel model = new PlainModel();
        x.setWidth(width);
        model.setWidth(width);
        for (int which = 0; which < 3; which++) {
            x.setCost(which, costs[which]);
            model.setCost(which, costs[which]);
        }
        int size = 1 << width;
        int step = width <= 8 ? 1 : size / 97;
        for (int d = -size / 2 - 1; d <= size; d += isEdge(d, size) ? 1 : step) {
            int divisor = d;
            String call = "build(" + kind + ", " + d + ") with " + width + " bits";
            try {
                int due = model.build(kind, d);
                Check.due(call, x.build(kind, d), due);
                Check.due(call + ": listing", Check.listing(x), model.listing());
                Check.due(call + ": cost()", x.cost(), model.cost());
                Check.due(call + ": depth()", x.depth(), model.depth());
                Check.due(call + ": firstWrong(0)", width <= 8 || d % 13 == 0 ? x.firstWrong(0) : -1, -1);
            } catch (PlainModel.Refused e) {
                Check.refused(x, call, Check.ARGUMENT, () -> x.build(kind, divisor));
            }
        }
    }

    private static boolean isEdge(int d, int size) {
        return Math.abs(d) < 40 || d < 8 - size / 2 || Math.abs(d - size / 2) < 8 || d > size - 8;
    }
}
