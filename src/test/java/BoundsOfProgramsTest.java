/** The boundary cases of "Programs" and of promises 12 to 15 and 17 to 24. */
public final class BoundsOfProgramsTest {
    public static void main(String[] args) {
        operationsFromZeroToEleven();
        valuesUpToTheInstruction();
        constantsOfTheWidth();
        fortyInstructions();
        operandsAreRefusedBeforeFullPrograms();
        valuesAsResults();
        dropsOfEmptyPrograms();
        dropsOfResults();
        tidyOfNothing();
        tidyOfFullPrograms();
        tidyOfOperandsThatDiffer();
        tidyOfRepeatedResults();
        tidyOfTheFirstAndTheLast();
        numbersOfInstructions();
        sides();
        costsAtTheEdges();
        depthsAtTheEdges();
        listingOfNothing();
        listingCharsAtTheEdges();
        listingNumbers();
        Check.end();
    }

    /** "op: its operation, 0 to 11" */
    private static void operationsFromZeroToEleven() {
        for (Bounds.Maker maker : new Bounds.Maker[] {ConstantDivider::new, Bounds::busy}) {
            Bounds.range("append(op, value 0, constant 1), op is ", 0, 11, Check.ARGUMENT, maker,
                    (x, op) -> x.append(op, false, 0, true, 1));
        }
    }

    /** "an earlier value (value j with j <= i)", at every length of a program */
    private static void valuesUpToTheInstruction() {
        for (int length = 0; length < 40; length++) {
            int i = length;
            Bounds.range("append(4, value a, constant 1) to " + i + ", a is ", 0, i, Check.ARGUMENT,
                    () -> Bounds.chain(8, i), (x, a) -> x.append(4, false, a, true, 1));
            Bounds.range("append(4, constant 1, value b) to " + i + ", b is ", 0, i, Check.ARGUMENT,
                    () -> Bounds.chain(8, i), (x, b) -> x.append(4, true, 1, false, b));
            Bounds.range("append(0, value a, constant 1) to " + i + ", a is ", 0, i, Check.ARGUMENT,
                    () -> Bounds.chain(8, i), (x, a) -> x.append(0, false, a, true, 1));
            ConstantDivider x = Bounds.chain(8, i);
            Check.due("append of the newest value twice", x.append(3, false, i, false, i), i + 1);
            Check.due("its value", x.run(3), 2 * (3 + i));
        }
    }

    /** "or a constant (0 to 2^w - 1)", which does not depend on the length of the program */
    private static void constantsOfTheWidth() {
        for (int width = Bounds.LEAST_WIDTH; width <= Bounds.GREATEST_WIDTH; width++) {
            int w = width;
            int top = (1 << w) - 1;
            for (int length : new int[] {0, 39}) {
                Bounds.Maker maker = () -> Bounds.chain(w, length);
                Bounds.range("append(9, constant a, value 0) with " + w + " bits, a is ", 0, top, Check.ARGUMENT, maker,
                        (x, a) -> x.append(9, true, a, false, 0));
                Bounds.range("append(9, value 0, constant b) with " + w + " bits, b is ", 0, top, Check.ARGUMENT, maker,
                        (x, b) -> x.append(9, false, 0, true, b));
                Bounds.range("append(9, constant a, constant a) with " + w + " bits, a is ", 0, top, Check.ARGUMENT,
                        maker, (x, a) -> x.append(9, true, a, true, a));
            }
            ConstantDivider x = Bounds.ofWidth(w);
            x.append(8, true, top, true, 0);
            Check.due("operand 2^w - 1 with " + w + " bits", x.operand(0, 0), top);
            Check.due("operand 0 with " + w + " bits", x.operand(0, 1), 0);
        }
    }

    /** "at most 40 instructions"; "if the program has 40 instructions" */
    private static void fortyInstructions() {
        ConstantDivider x = Bounds.chain(8, 39);
        Check.due("the 40th append", x.append(3, false, 39, true, 1), 40);
        Check.due("result()", x.result(), 40);
        Check.due("run(0)", x.run(0), 40);
        for (int op = 0; op <= 11; op++) {
            int o = op;
            Bounds.refused("the 41st append, of " + o, Check.STATE, () -> Bounds.chain(8, 40),
                    y -> y.append(o, false, 40, true, 7));
        }
        Check.due("drop() of 40", x.drop(), 39);
        Check.due("the 40th append again", x.append(9, false, 39, true, 255), 40);
        Check.due("full again", Check.thrownBy(() -> x.append(9, false, 0, true, 0)), Check.STATE);
        x.undo();
        Check.due("the 40th append behind undo", x.append(9, false, 0, true, 0), 40);
    }

    /** "If several exceptions apply to a call, the one that is listed first is thrown." */
    private static void operandsAreRefusedBeforeFullPrograms() {
        Bounds.Maker full = () -> Bounds.chain(8, 40);
        Bounds.refused("operation 12 to 40", Check.ARGUMENT, full, x -> x.append(12, false, 0, true, 0));
        Bounds.refused("operation -1 to 40", Check.ARGUMENT, full, x -> x.append(-1, false, 0, true, 0));
        Bounds.refused("value 41 to 40", Check.ARGUMENT, full, x -> x.append(3, false, 41, true, 0));
        Bounds.refused("value 41 second to 40", Check.ARGUMENT, full, x -> x.append(3, true, 0, false, 41));
        Bounds.refused("value -1 to 40", Check.ARGUMENT, full, x -> x.append(3, false, -1, true, 0));
        Bounds.refused("constant 256 to 40", Check.ARGUMENT, full, x -> x.append(3, true, 256, true, 0));
        Bounds.refused("constant 256 second to 40", Check.ARGUMENT, full, x -> x.append(3, true, 0, true, 256));
        Bounds.refused("a shift by 8 to 40", Check.ARGUMENT, full, x -> x.append(10, false, 0, true, 8));
        Bounds.refused("a shift by a value to 40", Check.ARGUMENT, full, x -> x.append(10, false, 0, false, 0));
        Bounds.refused("value 40 to 40", Check.STATE, full, x -> x.append(3, false, 40, false, 40));
        Bounds.refused("constant 255 to 40", Check.STATE, full, x -> x.append(3, true, 255, true, 255));
        Bounds.refused("a shift by 7 to 40", Check.STATE, full, x -> x.append(10, false, 0, true, 7));
    }

    /** "if there is no such value"; "Returns the number of the value that was the result before." */
    private static void valuesAsResults() {
        for (int length : new int[] {0, 1, 2, 39, 40}) {
            Bounds.Maker maker = () -> Bounds.chain(8, length);
            Bounds.range("setResult of " + length, 0, length, Check.INDEX, maker, (x, value) -> x.setResult(value));
            ConstantDivider x = maker.make();
            Check.due("setResult(0) of " + length, x.setResult(0), length);
            Check.due("run(9) of value 0", x.run(9), 9);
            Check.due("setResult(" + length + ")", x.setResult(length), 0);
            Check.due("run(9) of value " + length, x.run(9), 9 + length);
            Check.due("setResult(" + length + ") again", x.setResult(length), length);
        }
        ConstantDivider x = Bounds.chain(8, 2);
        x.drop();
        Check.due("setResult(2) behind drop()", Check.thrownBy(() -> x.setResult(2)), Check.INDEX);
        x.undo();
        Check.due("setResult(2) behind undo()", x.setResult(2), 2);
    }

    /** "if the program is empty": at first, by setWidth, by build, by drop and by tidy */
    private static void dropsOfEmptyPrograms() {
        Bounds.Maker[] empty = {ConstantDivider::new, () -> Bounds.ofWidth(4)};
        for (Bounds.Maker maker : empty) {
            Bounds.refused("drop() of an empty program", Check.STATE, maker, x -> x.drop());
        }
        Bounds.CallOn[] emptying = {x -> x.setWidth(8), x -> x.build(0, 1), x -> x.drop(),
            x -> Check.due("setResult(0)", x.setResult(0) + x.tidy(), 2)};
        for (Bounds.CallOn call : emptying) {
            Bounds.refused("drop() of a program made empty", Check.STATE, () -> {
                ConstantDivider x = Bounds.chain(8, 1);
                call.on(x);
                return x;
            }, x -> x.drop());
        }
        Bounds.allowed("drop() of one instruction", () -> Bounds.chain(8, 1), x -> x.drop());
    }

    /** "if its value was the result, the value before it becomes the result"; "the number of instructions then" */
    private static void dropsOfResults() {
        for (int length : new int[] {1, 2, 40}) {
            ConstantDivider last = Bounds.chain(8, length);
            Check.due("drop() with the last result", last.drop(), length - 1);
            Check.due("result() then", last.result(), length - 1);
            ConstantDivider before = Bounds.chain(8, length);
            before.setResult(length - 1);
            Check.due("drop() with the result before", before.drop(), length - 1);
            Check.due("result() stays", before.result(), length - 1);
            ConstantDivider first = Bounds.chain(8, length);
            first.setResult(0);
            Check.due("drop() with result 0", first.drop(), length - 1);
            Check.due("result() stays 0", first.result(), 0);
            Check.due("operation of the dropped one",
                    Check.thrownBy(() -> first.operation(length - 1)), Check.INDEX);
        }
    }

    /** "Returns how many instructions were removed.": none of none, none where all differ and are needed */
    private static void tidyOfNothing() {
        for (int length : new int[] {0, 1, 2, 40}) {
            ConstantDivider x = Bounds.chain(16, length);
            String before = Check.seen(x);
            Check.due("tidy() of a chain of " + length, x.tidy(), 0);
            Check.due("a chain of " + length + " stays", Check.seen(x), before);
        }
    }

    /** All but one, all of them, and a chain of which each is the same only after operands were replaced. */
    private static void tidyOfFullPrograms() {
        ConstantDivider same = new ConstantDivider();
        for (int i = 0; i < 40; i++) {
            same.append(5, false, 0, true, 3);
        }
        Check.due("tidy() of 40 equal ones", same.tidy(), 39);
        Check.due("what is left", Check.listing(same), "v1 = mul v0, 3\nreturn v1\n");
        ConstantDivider unneeded = Bounds.chain(8, 40);
        unneeded.setResult(0);
        Check.due("tidy() of 40 unneeded ones", unneeded.tidy(), 40);
        Check.due("what is left", Check.listing(unneeded), "return v0\n");
        ConstantDivider last = Bounds.chain(8, 40);
        last.setResult(39);
        Check.due("tidy() with the last one unneeded", last.tidy(), 1);
        Check.due("result() then", last.result(), 39);
        ConstantDivider chains = new ConstantDivider();
        for (int i = 0; i < 40; i++) {
            chains.append(3, false, Math.max(0, i - 1), true, 1);
        }
        // Values 1 and 2 are both v0 + 1, 3 and 4 are one more than these, and so on.
        Check.due("run(0) before", chains.run(0), 20);
        Check.due("tidy() of two chains", chains.tidy(), 20);
        Check.due("run(0) then", chains.run(0), 20);
        Check.due("depth() then", chains.depth(), 20);
    }

    /** "the same operation and the same operands": a constant is no value, and each operand has its side */
    private static void tidyOfOperandsThatDiffer() {
        ConstantDivider x = new ConstantDivider();
        x.append(3, false, 0, false, 0);
        x.append(3, false, 0, true, 0);
        x.append(3, true, 0, false, 0);
        x.append(3, true, 0, true, 0);
        x.append(8, false, 0, false, 0);
        x.append(3, false, 0, false, 1);
        x.append(3, false, 1, false, 0);
        for (int value = 1; value <= 6; value++) {
            x.append(9, false, value, false, 6 + value);
        }
        Check.due("tidy() of what differs", x.tidy(), 0);
        x.append(3, false, 1, false, 0);
        x.append(9, false, 13, false, 14);
        Check.due("tidy() of one that is the same", x.tidy(), 1);
        Check.due("its value is replaced", x.operand(13, 1), 7);
    }

    /** "its value is replaced by that of the earlier one wherever it is used, also as the result" */
    private static void tidyOfRepeatedResults() {
        ConstantDivider x = new ConstantDivider();
        x.append(4, true, 9, false, 0);
        x.append(3, false, 1, true, 5);
        x.append(4, true, 9, false, 0);
        Check.due("tidy() with a repeated result", x.tidy(), 2);
        Check.due("result()", x.result(), 1);
        Check.due("listing", Check.listing(x), "v1 = sub 9, v0\nreturn v1\n");
        ConstantDivider both = new ConstantDivider();
        both.append(3, false, 0, true, 1);
        both.append(3, false, 0, true, 2);
        both.append(3, false, 0, true, 2);
        both.append(5, false, 3, false, 3);
        Check.due("tidy() of a repeated and an unneeded one", both.tidy(), 2);
        Check.due("listing", Check.listing(both), "v1 = add v0, 2\nv2 = mul v1, v1\nreturn v2\n");
    }

    /** "the same .. as an earlier one": the first of 40, and the last or, where the first is needed itself, the 39th */
    private static void tidyOfTheFirstAndTheLast() {
        ConstantDivider last = Bounds.chain(8, 39);
        last.append(3, false, 0, true, 1);
        Check.due("tidy() with the last as the first", last.tidy(), 39);
        Check.due("listing", Check.listing(last), "v1 = add v0, 1\nreturn v1\n");
        ConstantDivider before = Bounds.chain(8, 38);
        before.append(3, false, 0, true, 1);
        before.append(9, false, 38, false, 39);
        Check.due("tidy() with the 39th as the first", before.tidy(), 1);
        Check.due("instructions() then", before.instructions(), 39);
        Check.due("what it was used by", before.operand(38, 0), 38);
        Check.due("its value is replaced", before.operand(38, 1), 1);
        Check.due("result() then", before.result(), 39);
    }

    /** "if there is no such instruction": with 0, 1 and 40 of them */
    private static void numbersOfInstructions() {
        for (int side = -1; side <= 2; side++) {
            int s = side;
            Bounds.refused("operand(0, " + s + ") of none", Check.INDEX, ConstantDivider::new, x -> x.operand(0, s));
            Bounds.refused("isConstant(0, " + s + ") of none", Check.INDEX, ConstantDivider::new,
                    x -> x.isConstant(0, s));
        }
        Bounds.refused("operation(0) of none", Check.INDEX, ConstantDivider::new, x -> x.operation(0));
        for (int length : new int[] {1, 2, 39, 40}) {
            Bounds.Maker maker = () -> Bounds.chain(8, length);
            Bounds.range("operation of " + length, 0, length - 1, Check.INDEX, maker, (x, i) -> x.operation(i));
            for (int side = 0; side <= 1; side++) {
                int s = side;
                Bounds.range("operand(i, " + s + ") of " + length + ", i is ", 0, length - 1, Check.INDEX, maker,
                        (x, i) -> x.operand(i, s));
                Bounds.range("isConstant(i, " + s + ") of " + length + ", i is ", 0, length - 1, Check.INDEX, maker,
                        (x, i) -> x.isConstant(i, s));
            }
            ConstantDivider x = maker.make();
            Check.due("instructions()", x.instructions(), length);
            Check.due("operation of the last", x.operation(length - 1), 3);
            Check.due("first operand of the last", x.operand(length - 1, 0), length - 1);
            Check.due("second operand of the last", x.operand(length - 1, 1), 1);
            Check.due("first operand is constant", x.isConstant(length - 1, 0), false);
            Check.due("second operand is constant", x.isConstant(length - 1, 1), true);
        }
    }

    /** "or side is not 0 or 1" */
    private static void sides() {
        for (int i : new int[] {0, 39}) {
            Bounds.Maker maker = () -> Bounds.chain(8, 40);
            Bounds.range("operand(" + i + ", side), side is ", 0, 1, Check.INDEX, maker,
                    (x, side) -> x.operand(i, side));
            Bounds.range("isConstant(" + i + ", side), side is ", 0, 1, Check.INDEX, maker,
                    (x, side) -> x.isConstant(i, side));
        }
    }

    /** "The cost of a program is the sum of the costs of its instructions.": 0 of none, 800 at most */
    private static void costsAtTheEdges() {
        for (int op : new int[] {5, 6, 7, 8}) {
            ConstantDivider x = new ConstantDivider();
            int which = op == 5 ? 0 : op == 8 ? 2 : 1;
            x.setCost(which, 20);
            Check.due("cost() of none", x.cost(), 0);
            for (int i = 0; i < 40; i++) {
                x.append(op, false, i, true, 255);
            }
            Check.due("the greatest cost() of " + op, x.cost(), 800);
            x.setCost(which, 1);
            Check.due("the least cost() of 40 of " + op, x.cost(), 40);
            x.setResult(0);
            Check.due("cost() of what is not needed", x.cost(), 40);
        }
    }

    /** "the depth of value 0 and of constants is 0"; "the depth of the program is that of its result" */
    private static void depthsAtTheEdges() {
        ConstantDivider x = Bounds.chain(8, 40);
        Check.due("depth() of 40", x.depth(), 40);
        x.setResult(1);
        Check.due("depth() of value 1", x.depth(), 1);
        x.setResult(0);
        Check.due("depth() of value 0", x.depth(), 0);
        x.setResult(39);
        Check.due("depth() of value 39", x.depth(), 39);
        x.drop();
        Check.due("append of constants", x.append(3, true, 39, true, 40), 40);
        Check.due("depth() of constants alone", x.depth(), 1);
        Check.due("depth() of none", new ConstantDivider().depth(), 0);
    }

    /** "The last line is "return v" and the number of the result, and a line feed.": all that an empty program has */
    private static void listingOfNothing() {
        String text = "return v0\n";
        ConstantDivider x = new ConstantDivider();
        for (int k = 0; k < text.length(); k++) {
            Check.due("listingChar(" + k + ") of none", x.listingChar(k), text.charAt(k));
        }
        Check.due("listingChar(10) of none", x.listingChar(10), -1);
        Check.due("listingChar(11) of none", x.listingChar(11), -1);
    }

    /** "the index of the character, 0 or more"; "-1 if there are not so many characters"; "if k is negative" */
    private static void listingCharsAtTheEdges() {
        for (int length : new int[] {0, 1, 9, 10, 40}) {
            ConstantDivider x = Bounds.chain(8, length);
            // Lines such as "v9 = add v8, 1", "v10 = add v9, 1" and "v11 = add v10, 1", each with a line feed.
            int lines = 15 * Math.min(length, 9) + (length >= 10 ? 16 : 0) + 17 * Math.max(0, length - 10);
            int characters = lines + (length < 10 ? 10 : 11);
            Check.due("the first of " + length, x.listingChar(0), length == 0 ? 'r' : 'v');
            Check.due("the last of " + length, x.listingChar(characters - 1), 10);
            Check.due("the one before it of " + length, x.listingChar(characters - 2), '0' + length % 10);
            Check.due("the one behind the last of " + length, x.listingChar(characters), -1);
            Check.due("the farthest of " + length, x.listingChar(Integer.MAX_VALUE), -1);
            for (int k : new int[] {-1, -2, Integer.MIN_VALUE}) {
                Bounds.refused("listingChar(" + k + ")", Check.INDEX, () -> Bounds.chain(8, length),
                        y -> y.listingChar(k));
            }
        }
    }

    /** "All numbers are decimal.": those at which a digit more begins, for values and for constants */
    private static void listingNumbers() {
        int[] constants = {0, 9, 10, 99, 100, 999, 1000, 9999, 10000, 65535};
        ConstantDivider x = Bounds.ofWidth(16);
        String[] lines = new String[constants.length];
        for (int i = 0; i < constants.length; i++) {
            x.append(9, true, constants[i], true, constants[constants.length - 1 - i]);
            lines[i] = "xor " + constants[i] + ", " + constants[constants.length - 1 - i];
        }
        Check.due("listing of constants", Check.listing(x), Bounds.listing(lines));
        ConstantDivider values = Bounds.chain(4, 11);
        values.setResult(9);
        String text = Check.listing(values);
        Check.due("values 9, 10 and 11", text.substring(text.indexOf("v9 = ")),
                "v9 = add v8, 1\nv10 = add v9, 1\nv11 = add v10, 1\nreturn v9\n");
        values.setResult(10);
        Check.due("return v10", Check.listing(values).endsWith("\nreturn v10\n"), true);
    }
}
