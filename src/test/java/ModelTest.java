import java.util.Random;
import java.util.function.LongSupplier;

/** Holds the class against the plain model: runs of 512 calls drawn from fixed seeds, wrong ones among them. */
public final class ModelTest {
    private static final int RUNS = 400;
    private static final int CALLS = 512;
    private static final int CALLS_OF_EDITS = 11;
    private static final int ALL_CALLS = 34;

    private final Random random;
    private final ConstantDivider x = new ConstantDivider();
    private final PlainModel model = new PlainModel();
    private final int greatestWidth;
    private final boolean grows;
    private final StringBuilder told = new StringBuilder();

    private ModelTest(int seed) {
        random = new Random(seed);
        // Without builds, drops and undos a program grows to 40 instructions.
        grows = seed % 4 == 1;
        greatestWidth = seed % 8 == 0 ? 16 : 4 + seed % 5;
    }

    public static void main(String[] args) {
        for (int seed = 1; seed <= RUNS; seed++) {
            new ModelTest(seed).run(seed);
        }
        Check.end();
    }

    private void run(int seed) {
        same("setWidth", () -> x.setWidth(greatestWidth), () -> model.setWidth(greatestWidth));
        for (int i = 1; i < CALLS; i++) {
            // Most calls are edits, so that programs grow, and the history runs full.
            int call = random.nextInt(3) == 0 ? random.nextInt(ALL_CALLS) : random.nextInt(CALLS_OF_EDITS);
            if (grows && i < 200 && (call <= 1 || call >= 8 && call <= 11)) {
                call = 3;
            }
            if (!one(call)) {
                System.out.println("seed " + seed + ", call " + i + ", the last calls:" + told);
                return;
            }
        }
    }

    /** Mostly from least to greatest, edges rather often, sometimes beyond. */
    private int number(int least, int greatest) {
        switch (random.nextInt(24)) {
            case 0: return least;
            case 1: return greatest;
            case 2: return least - 1;
            case 3: return greatest + 1;
            case 4: return random.nextInt(8) == 0 ? random.nextInt() : least;
            default: return least + random.nextInt(greatest - least + 1);
        }
    }

    private boolean same(String call, LongSupplier got, LongSupplier want) {
        String due = answer(want);
        String answered = answer(got);
        told.append(' ').append(call).append(" = ").append(due);
        Check.due(call, answered, due);
        return answered.equals(due);
    }

    private static String answer(LongSupplier call) {
        try {
            return Long.toString(call.getAsLong());
        } catch (PlainModel.Refused e) {
            return e.getMessage();
        } catch (RuntimeException e) {
            return e.getClass().getSimpleName();
        }
    }

    private boolean one(int call) {
        if (told.length() > 4000) {
            told.delete(0, 2000);
        }
        int size = 1 << x.width();
        int length = x.instructions();
        switch (call) {
            case 0: case 1: return buildOrTask(size, true);
            case 2: return buildOrTask(size, false);
            case 3: case 4: case 5: case 6: return appendOne(size, length);
            case 7: {
                int value = number(0, length);
                return same("setResult(" + value + ")", () -> x.setResult(value), () -> model.setResult(value));
            }
            case 8: return same("drop()", x::drop, model::drop);
            case 9: return random.nextInt(4) > 0 || same("tidy()", x::tidy, model::tidy);
            case 10: return same("undo()", x::undo, model::undo);
            case 11: {
                // Mostly a refused one: a new width ends the program that has grown.
                int width = random.nextInt(4) > 0 ? random.nextInt(4) : number(4, greatestWidth);
                return same("setWidth(" + width + ")", () -> x.setWidth(width), () -> model.setWidth(width));
            }
            case 12: return same("width()", x::width, model::width);
            case 13: {
                int which = number(0, 2);
                int cost = number(1, 20);
                return same("setCost(" + which + ", " + cost + ")",
                        () -> x.setCost(which, cost), () -> model.setCost(which, cost));
            }
            default: return call < 24 ? ask(call, size, length) : check(call, size, length);
        }
    }

    private boolean buildOrTask(int size, boolean build) {
        int kind = number(0, 7);
        int d = kind == 2 || kind == 3 ? number(-size / 2, size / 2 - 1) : number(kind == 7 ? 0 : 1, size - 1);
        String of = "(" + kind + ", " + d + ")";
        return build ? same("build" + of, () -> x.build(kind, d), () -> model.build(kind, d))
                : same("setTask" + of, () -> x.setTask(kind, d), () -> model.setTask(kind, d));
    }

    private boolean appendOne(int size, int length) {
        int op = number(0, 11);
        boolean isConstantA = random.nextInt(5) == 0;
        int a = isConstantA ? number(0, size - 1) : number(Math.max(0, length - 3), length);
        boolean shift = op <= 2 || op == 10;
        boolean isConstantB = shift ? random.nextInt(20) > 0 : random.nextBoolean();
        int b = !isConstantB ? number(0, Math.min(2, length)) : number(0, shift ? x.width() - 1 : size - 1);
        return same("append(" + op + ", " + isConstantA + ", " + a + ", " + isConstantB + ", " + b + ")",
                () -> x.append(op, isConstantA, a, isConstantB, b),
                () -> model.append(op, isConstantA, a, isConstantB, b));
    }

    private boolean ask(int call, int size, int length) {
        int i = number(0, Math.max(0, length - 1));
        int side = number(0, 1);
        String at = "(" + i + ", " + side + ")";
        switch (call) {
            case 14: return same("operation(" + i + ")", () -> x.operation(i), () -> model.operation(i));
            case 15: return same("operand" + at, () -> x.operand(i, side), () -> model.operand(i, side));
            case 16: return same("isConstant" + at,
                    () -> x.isConstant(i, side) ? 1 : 0, () -> model.isConstant(i, side) ? 1 : 0);
            case 17: return same("result()", x::result, model::result);
            case 18: return same("cost()", x::cost, model::cost);
            case 19: return same("depth()", x::depth, model::depth);
            case 20: {
                Check.due("listing", Check.listing(x), model.listing());
                int k = number(0, 1100);
                return same("listingChar(" + k + ")", () -> x.listingChar(k), () -> model.listingChar(k));
            }
            case 21: return same("instructions()", x::instructions, model::instructions);
            case 22: {
                int d = number(1, size - 1);
                return same("multiplier(" + d + ")", () -> x.multiplier(d), () -> model.multiplier(d))
                        && same("shift(" + d + ")", () -> x.shift(d), () -> model.shift(d));
            }
            default: {
                int d = number(0, size - 1);
                return same("inverse(" + d + ")", () -> x.inverse(d), () -> model.inverse(d))
                        && same("digits(" + d + ")", () -> x.digits(d), () -> model.digits(d))
                        && same("signedMultiplier(" + d + ")",
                                () -> x.signedMultiplier(d), () -> model.signedMultiplier(d));
            }
        }
    }

    private boolean check(int call, int size, int length) {
        int input = number(0, size - 1);
        switch (call) {
            case 24: return same("run(" + input + ")", () -> x.run(input), () -> model.run(input));
            case 25: {
                int value = number(0, length);
                return same("valueOf(" + input + ", " + value + ")",
                        () -> x.valueOf(input, value), () -> model.valueOf(input, value));
            }
            case 26: return same("expected(" + input + ")", () -> x.expected(input), () -> model.expected(input));
            case 27: case 28: {
                // The model needs long for wide programs; a start near the end keeps them in the test.
                int from = size > 512 && input > 0 ? Math.max(input, size - 100) : input;
                return same("firstWrong(" + from + ")", () -> x.firstWrong(from), () -> model.firstWrong(from));
            }
            case 29: return size > 512 || same("wrong()", x::wrong, model::wrong);
            default: return true;
        }
    }
}
