/** The boundary cases of "Building" and "Kinds of programs", and of promises 10 and 11. */
public final class BoundsOfBuildingTest {
    private final int w;
    private final int top;
    private final int half;
    private final int quarter;
    private final ConstantDivider x;

    private BoundsOfBuildingTest(int width) {
        w = width;
        top = (1 << w) - 1;
        half = 1 << (w - 1);
        quarter = 1 << (w - 2);
        x = Bounds.ofWidth(w);
    }

    public static void main(String[] args) {
        for (int width = Bounds.LEAST_WIDTH; width <= Bounds.GREATEST_WIDTH; width++) {
            BoundsOfBuildingTest test = new BoundsOfBuildingTest(width);
            test.divisorsByKind();
            test.noSignedDivisorZero();
            test.unsignedQuotients();
            test.unsignedRemainders();
            test.signedQuotients();
            test.signedRemainders();
            test.floorQuotients();
            test.exactQuotients();
            test.divisibility();
            test.products();
        }
        kindsFromZeroToSeven();
        shiftsByZeroAreNotWritten();
        evenDivisorsWithErrorsJustSmallEnough();
        costAtMostThatOfMul();
        costOfTheLongestProduct();
        longestPrograms();
        previousKinds();
        buildReplacesAll();
        Check.end();
    }

    private void built(int kind, int d, String... lines) {
        Bounds.built(x, kind, d, lines);
    }

    private static Bounds.CallWith call(boolean build, int kind) {
        return build ? (x, d) -> x.build(kind, d) : (x, d) -> x.setTask(kind, d);
    }

    /** "kind: 0 to 7"; "if kind is out of its range" */
    private static void kindsFromZeroToSeven() {
        for (Bounds.Maker maker : new Bounds.Maker[] {ConstantDivider::new, Bounds::busy, Bounds::full}) {
            Bounds.range("build(kind, 2), kind is ", 0, 7, Check.ARGUMENT, maker, (x, kind) -> x.build(kind, 2));
            Bounds.range("setTask(kind, 2), kind is ", 0, 7, Check.ARGUMENT, maker, (x, kind) -> x.setTask(kind, 2));
            for (int kind : new int[] {-1, 8}) {
                Bounds.refused("build(" + kind + ", 0)", Check.ARGUMENT, maker, x -> x.build(kind, 0));
                Bounds.refused("setTask(" + kind + ", 0)", Check.ARGUMENT, maker, x -> x.setTask(kind, 0));
            }
        }
    }

    /** "or d is not as described for the kind": the ranges of all eight kinds */
    private void divisorsByKind() {
        int[][] ranges = {{1, top}, {1, top}, {-half, half - 1}, {-half, half - 1}, {1, half - 1}, {1, top}, {2, top},
            {0, top}};
        for (int kind = 0; kind < ranges.length; kind++) {
            for (boolean build : new boolean[] {true, false}) {
                String name = (build ? "build(" : "setTask(") + kind + ", d) with " + w + " bits, d is ";
                Bounds.range(name, ranges[kind][0], ranges[kind][1], Check.ARGUMENT, () -> Bounds.chain(w, 3),
                        call(build, kind));
            }
        }
    }

    /** "d not 0" */
    private void noSignedDivisorZero() {
        for (int kind = 2; kind <= 3; kind++) {
            for (boolean build : new boolean[] {true, false}) {
                Bounds.CallWith call = call(build, kind);
                String name = (build ? "build(" : "setTask(") + kind + ", ";
                Bounds.allowed(name + "-1)", () -> Bounds.ofWidth(w), y -> call.with(y, -1));
                Bounds.refused(name + "0)", Check.ARGUMENT, () -> Bounds.chain(w, 3), y -> call.with(y, 0));
                Bounds.allowed(name + "1)", () -> Bounds.ofWidth(w), y -> call.with(y, 1));
            }
        }
    }

    /** "If d = 2^k"; "If M < 2^w", with the M next to 2^w on both sides; "Otherwise, if d is even" */
    private void unsignedQuotients() {
        built(0, 1);
        built(0, 2, "shr v0, 1");
        built(0, half, "shr v0, " + (w - 1));
        built(0, half + 1, "mulhu v0, " + top, "shr v1, " + (w - 1));
        built(0, half - 1, "mulhu v0, 3", "sub v0, v1", "shr v2, 1", "add v3, v1", "shr v4, " + (w - 2));
        built(0, top, "mulhu v0, " + (half + 1), "shr v1, " + (w - 1));
        built(0, top - 1, "shr v0, 1", "mulhu v1, " + (quarter + 1), "shr v2, " + (w - 3));
    }

    /** "if d = 2^k, and(x, 2^k - 1)", k from 0 to w - 1 */
    private void unsignedRemainders() {
        built(1, 1, "and v0, 0");
        built(1, 2, "and v0, 1");
        built(1, half, "and v0, " + (half - 1));
        built(1, top, "mulhu v0, " + (half + 1), "shr v1, " + (w - 1), "sub 0, v2", "sub v0, v3");
    }

    /** "If a = 1"; "If a = 2^k with k > 0", k from 1 to w - 1; "if M >= 2^(w-1)", with the M next to it */
    private void signedQuotients() {
        built(2, 1);
        built(2, -1, "sub 0, v0");
        built(2, 2, "shr v0, " + (w - 1), "add v0, v1", "sar v2, 1");
        built(2, -half, "sar v0, " + (w - 2), "shr v1, 1", "add v0, v2", "sar v3, " + (w - 1), "sub 0, v4");
        built(2, quarter, "sar v0, " + (w - 3), "shr v1, 2", "add v0, v2", "sar v3, " + (w - 2));
        built(2, half - 1, "mulhs v0, " + (quarter + 1), "sar v1, " + (w - 3), "shr v0, " + (w - 1), "add v2, v3");
        built(2, 1 - half, "mulhs v0, " + (quarter + 1), "sar v1, " + (w - 3), "shr v0, " + (w - 1), "add v2, v3",
                "sub 0, v4");
        built(2, quarter + 1, "mulhs v0, " + (half - 1), "sar v1, " + (w - 3), "shr v0, " + (w - 1), "add v2, v3");
        if (w > 4) {
            built(2, quarter - 1, "mulhs v0, " + (half + 3), "add v1, v0", "sar v2, " + (w - 3),
                    "shr v0, " + (w - 1), "add v3, v4");
        }
    }

    /** "p the product of q by the value of d" for the d at the ends of their range */
    private void signedRemainders() {
        built(3, 1, "sub v0, v0");
        built(3, -1, "sub 0, v0", "sub 0, v1", "sub v0, v2");
        built(3, -half, "sar v0, " + (w - 2), "shr v1, 1", "add v0, v2", "sar v3, " + (w - 1), "sub 0, v4",
                "shl v5, " + (w - 1), "sub v0, v6");
        built(3, half - 1, "mulhs v0, " + (quarter + 1), "sar v1, " + (w - 3), "shr v0, " + (w - 1), "add v2, v3",
                "sub 0, v4", "shl v4, " + (w - 1), "add v5, v6", "sub v0, v7");
        built(3, 1 - half, "mulhs v0, " + (quarter + 1), "sar v1, " + (w - 3), "shr v0, " + (w - 1), "add v2, v3",
                "sub 0, v4", "shl v5, " + (w - 1), "add v5, v6", "sub v0, v7");
    }

    /** "1 <= d < 2^(w-1): if d = 2^k, sar(x, k)" */
    private void floorQuotients() {
        built(4, 1);
        built(4, 2, "sar v0, 1");
        built(4, quarter, "sar v0, " + (w - 2));
        built(4, half - 1, "sar v0, " + (w - 1), "xor v0, v1", "mulhu v2, 3", "sub v2, v3", "shr v4, 1",
                "add v5, v3", "shr v6, " + (w - 2), "xor v7, v1");
    }

    /** "d = 2^k * e with e odd": e = 1, and the greatest e with k = 0 and k = 1 */
    private void exactQuotients() {
        built(5, 1);
        built(5, 2, "shr v0, 1");
        built(5, half, "shr v0, " + (w - 1));
        built(5, top, "sub 0, v0");
        built(5, top - 1, "shr v0, 1", "sub 0, v1", "shl v1, " + (w - 1), "add v2, v3");
    }

    /** "2 <= d < 2^w"; "p itself if k = 0" */
    private void divisibility() {
        built(6, 2, "ror v0, 1", "leu v1, " + (half - 1));
        built(6, half, "ror v0, " + (w - 1), "leu v1, 1");
        built(6, half + 1, "shl v0, " + (w - 1), "add v0, v1", "leu v2, 1");
        built(6, half - 1, "sub 0, v0", "shl v0, " + (w - 1), "add v1, v2", "leu v3, 2");
        built(6, top, "sub 0, v0", "leu v1, 1");
        built(6, top - 1, "sub 0, v0", "shl v0, " + (w - 1), "add v1, v2", "ror v3, 1", "leu v4, 1");
    }

    /** "if c = 1"; "If c = 0"; "digits for 2^w and beyond are left out" */
    private void products() {
        built(7, 0, "and v0, 0");
        built(7, 1);
        built(7, 2, "shl v0, 1");
        built(7, half, "shl v0, " + (w - 1));
        built(7, half - 1, "sub 0, v0", "shl v0, " + (w - 1), "add v1, v2");
        built(7, half + 1, "shl v0, " + (w - 1), "add v0, v1");
        built(7, half + quarter, "shl v0, " + (w - 2), "sub 0, v1");
        built(7, top - 1, "shl v0, 1", "sub 0, v1");
        built(7, top, "sub 0, v0");
    }

    /** "A shift by 0 bits is not written: its result is its first operand." */
    private static void shiftsByZeroAreNotWritten() {
        ConstantDivider x = new ConstantDivider();
        Bounds.built(x, 0, 1);
        Bounds.built(x, 4, 1);
        Bounds.built(x, 5, 255, "sub 0, v0");
        Bounds.built(x, 6, 255, "sub 0, v0", "leu v1, 1");
        Bounds.built(x, 2, 2, "shr v0, 7", "add v0, v1", "sar v2, 1");
        Bounds.built(x, 2, 4, "sar v0, 1", "shr v1, 6", "add v0, v2", "sar v3, 2");
        Bounds.built(x, 2, 3, "mulhs v0, 86", "shr v0, 7", "add v1, v2");
        Bounds.built(x, 2, 5, "mulhs v0, 103", "sar v1, 1", "shr v0, 7", "add v2, v3");
        Bounds.built(x, 0, 28, "shr v0, 2", "mulhu v1, 37");
        Bounds.built(x, 0, 14, "shr v0, 1", "mulhu v1, 147", "shr v2, 2");
        Bounds.built(x, 7, 5, "shl v0, 2", "add v0, v1");
        x.setWidth(9);
        Bounds.built(x, 0, 3, "mulhu v0, 171");
        Bounds.built(x, 0, 6, "mulhu v0, 171", "shr v1, 1");
        Bounds.built(x, 1, 3, "mulhu v0, 171", "sub 0, v1", "shl v1, 2", "add v2, v3", "sub v0, v4");
        Bounds.built(x, 4, 3, "sar v0, 8", "xor v0, v1", "mulhu v2, 171", "xor v3, v1");
    }

    /** "N * e - 2^(w+u) <= 2^(u+k)": just that, and one too many with u - 1 */
    private static void evenDivisorsWithErrorsJustSmallEnough() {
        ConstantDivider x = new ConstantDivider();
        Bounds.built(x, 0, 88, "shr v0, 3", "mulhu v1, 24");
        Bounds.built(x, 0, 184, "shr v0, 3", "mulhu v1, 45", "shr v2, 2");
        x.setWidth(9);
        Bounds.built(x, 0, 172, "shr v0, 2", "mulhu v1, 12");
        Bounds.built(x, 0, 368, "shr v0, 4", "mulhu v1, 45", "shr v2, 1");
        x.setWidth(16);
        Bounds.built(x, 0, 21848, "shr v0, 3", "mulhu v1, 24");
        Bounds.built(x, 0, 28, "shr v0, 2", "mulhu v1, 18725", "shr v2, 1");
    }

    /** "Way 2 is used if its cost is at most that of way 1." */
    private static void costAtMostThatOfMul() {
        ConstantDivider x = new ConstantDivider();
        String[] mul = {"mul v0, 3"};
        String[] digits = {"sub 0, v0", "shl v0, 2", "add v1, v2"};
        for (int cost = 1; cost <= 6; cost++) {
            x.setCost(2, cost);
            x.setCost(0, 3 * cost);
            Bounds.built(x, 7, 3, digits);
            x.setCost(0, 3 * cost - 1);
            Bounds.built(x, 7, 3, mul);
        }
        x.setCost(2, 20);
        x.setCost(0, 20);
        Bounds.built(x, 7, 128, "shl v0, 7");
        Bounds.built(x, 7, 255, "sub 0, v0");
        Bounds.built(x, 7, 254, "mul v0, 254");
        x.setCost(0, 19);
        Bounds.built(x, 7, 128, "mul v0, 128");
        Bounds.built(x, 7, 255, "mul v0, 255");
        x.setCost(0, 1);
        Bounds.built(x, 7, 0, "and v0, 0");
        Bounds.built(x, 7, 1);
    }

    /** A first digit of -1 that is shifted, and eight digits: no product of 16 bits has more instructions. */
    private static void costOfTheLongestProduct() {
        ConstantDivider x = Bounds.ofWidth(16);
        x.setCost(0, 16);
        Check.due("build(7, 0xaaa6) with mul at 16", x.build(7, 0xaaa6), 16);
        Check.due("its cost", x.cost(), 16);
        Check.due("its first lines", Check.listing(x).startsWith(
                "v1 = shl v0, 1\nv2 = sub 0, v1\nv3 = shl v0, 3\nv4 = add v2, v3\n"), true);
        Check.due("it is right", x.wrong(), 0);
        x.setCost(0, 15);
        Bounds.built(x, 7, 0xaaa6, "mul v0, 43686");
    }

    /** "at most 40 instructions": what build() writes stays far below, whatever the costs. */
    private static void longestPrograms() {
        ConstantDivider x = Bounds.ofWidth(16);
        x.setCost(0, 20);
        int longest = 0;
        for (int d = -32768; d <= 65535; d++) {
            for (int kind = 0; kind <= 7; kind++) {
                boolean signed = kind == 2 || kind == 3;
                boolean fits = signed ? d != 0 && d <= 32767 : d >= 2 && d <= (kind == 4 ? 32767 : 65535);
                longest = Math.max(longest, fits ? x.build(kind, d) : 0);
            }
        }
        Check.due("the longest program is below 40", longest < 40, true);
        Check.due("the longest program is that of a remainder", longest, 23);
    }

    /** "Returns the kind of the previous task; -1 if there was none." */
    private static void previousKinds() {
        ConstantDivider x = new ConstantDivider();
        Check.due("setTask at first", x.setTask(0, 1), -1);
        Check.due("setTask behind kind 0", x.setTask(7, 0), 0);
        Check.due("setTask behind kind 7", x.setTask(7, 0), 7);
        Check.due("a refused task", Check.thrownBy(() -> x.setTask(8, 0)), Check.ARGUMENT);
        Check.due("setTask behind a refused one", x.setTask(6, 2), 7);
        x.setWidth(8);
        Check.due("setTask behind setWidth", x.setTask(1, 1), -1);
        x.undo();
        Check.due("setTask behind undo to none", x.setTask(1, 1), -1);
        x.undo();
        x.undo();
        Check.due("setTask behind undo of setWidth", x.setTask(0, 255), 6);
        x.build(0, 255);
        Check.due("setTask behind build(0, 255)", x.setTask(5, 1), 0);
    }

    /** "Builds a program, which replaces the former one, and sets the task.": full ones, and one by none */
    private static void buildReplacesAll() {
        ConstantDivider x = Bounds.full();
        Check.due("build(0, 1) in place of 40", x.build(0, 1), 0);
        Check.due("instructions()", x.instructions(), 0);
        Check.due("result()", x.result(), 0);
        Check.due("listing", Check.listing(x), "return v0\n");
        Check.due("expected(65535)", x.expected(65535), 65535);
        Check.due("undo()", x.undo(), 7);
        Check.due("40 again", x.instructions(), 40);
        Check.due("build(0, 65535) in place of 40", x.build(0, 65535), 2);
        Check.due("result()", x.result(), 2);
        Check.due("expected(65534)", x.expected(65534), 0);
        Check.due("expected(65535)", x.expected(65535), 1);
    }
}
