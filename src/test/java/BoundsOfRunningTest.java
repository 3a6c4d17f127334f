/** The boundary cases of "Meaning" and of promises 25 to 29. */
public final class BoundsOfRunningTest {
    private final int w;
    private final int top;
    private final int half;

    private BoundsOfRunningTest(int width) {
        w = width;
        top = (1 << w) - 1;
        half = 1 << (w - 1);
    }

    public static void main(String[] args) {
        for (int width = Bounds.LEAST_WIDTH; width <= Bounds.GREATEST_WIDTH; width++) {
            BoundsOfRunningTest test = new BoundsOfRunningTest(width);
            test.inputs();
            test.noTask();
            test.unsignedMeanings();
            test.signedMeanings();
            test.exactMeanings();
            test.divisibilityAndProducts();
            test.onlyTheLastIsWrong();
            test.onlyTheFirstIsWrong();
            test.noneIsWrong();
            test.allAreWrong();
            test.anythingIsRight();
        }
        valuesOfPrograms();
        inputsAreRefusedFirst();
        Check.end();
    }

    private ConstantDivider withTask(int kind, int d) {
        ConstantDivider x = Bounds.ofWidth(w);
        x.setTask(kind, d);
        return x;
    }

    private void expected(int kind, int d, int input, int want) {
        Check.due("expected(" + input + ") of " + kind + ", " + d + " with " + w + " bits",
                withTask(kind, d).expected(input), want);
    }

    /** "x: the input, 0 to 2^w - 1"; "from: .. 0 to 2^w - 1"; "if x is out of its range" */
    private void inputs() {
        Bounds.Maker[] makers = {() -> withTask(0, top), () -> Bounds.chain(w, 40)};
        for (Bounds.Maker maker : makers) {
            Bounds.range("run", 0, top, Check.ARGUMENT, maker, (x, n) -> x.run(n));
            Bounds.range("valueOf(x, 0), x is ", 0, top, Check.ARGUMENT, maker, (x, n) -> x.valueOf(n, 0));
        }
        Bounds.range("expected", 0, top, Check.ARGUMENT, makers[0], (x, n) -> x.expected(n));
        Bounds.range("firstWrong", 0, top, Check.ARGUMENT, makers[0], (x, n) -> x.firstWrong(n));
        ConstantDivider full = Bounds.chain(w, 40);
        Check.due("run(0) of 40", full.run(0), 40 & top);
        Check.due("run(2^w - 1) of 40", full.run(top), 39 & top);
    }

    /** "if there is no task", also behind a width that took it away; "if from is out of its range" comes first. */
    private void noTask() {
        Bounds.Maker taken = () -> {
            ConstantDivider x = withTask(7, 0);
            x.setWidth(w);
            return x;
        };
        for (Bounds.Maker maker : new Bounds.Maker[] {() -> Bounds.chain(w, 2), taken}) {
            for (int input : new int[] {0, top}) {
                Bounds.refused("expected(" + input + ")", Check.STATE, maker, x -> x.expected(input));
                Bounds.refused("firstWrong(" + input + ")", Check.STATE, maker, x -> x.firstWrong(input));
            }
            for (int input : new int[] {-1, top + 1}) {
                Bounds.refused("expected(" + input + ")", Check.ARGUMENT, maker, x -> x.expected(input));
                Bounds.refused("firstWrong(" + input + ")", Check.ARGUMENT, maker, x -> x.firstWrong(input));
            }
            Bounds.refused("wrong()", Check.STATE, maker, x -> x.wrong());
        }
    }

    /** "0 floor(x / d); 1 x modulo d" for the least and the greatest d and inputs around them */
    private void unsignedMeanings() {
        for (int input : new int[] {0, 1, top}) {
            expected(0, 1, input, input);
            expected(1, 1, input, 0);
        }
        expected(0, top, 0, 0);
        expected(0, top, top - 1, 0);
        expected(0, top, top, 1);
        expected(1, top, 0, 0);
        expected(1, top, top - 1, top - 1);
        expected(1, top, top, 0);
        expected(0, half, half - 1, 0);
        expected(0, half, half, 1);
        expected(1, half, top, half - 1);
    }

    /** "the value of X / d rounded toward zero": X from -2^(w-1) to 2^(w-1) - 1, and the d at the ends */
    private void signedMeanings() {
        int greatest = half - 1;
        int least = half;
        // -2^(w-1) / -1 is 2^(w-1), whose value has the signed meaning -2^(w-1).
        expected(2, -1, least, half);
        expected(2, -1, greatest, half + 1);
        expected(2, -1, top, 1);
        expected(2, 1, least, half);
        expected(2, -half, least, 1);
        expected(2, -half, least + 1, 0);
        expected(2, -half, greatest, 0);
        expected(2, greatest, greatest, 1);
        expected(2, greatest, greatest - 1, 0);
        expected(2, greatest, least, top);
        expected(2, greatest, least + 1, top);
        expected(2, greatest, least + 2, 0);
        expected(3, -1, least, 0);
        expected(3, -half, least, 0);
        expected(3, -half, least + 1, half + 1);
        expected(3, -half, greatest, greatest);
        expected(3, greatest, least, top);
        expected(3, greatest, least + 1, 0);
        expected(3, greatest, greatest, 0);
        expected(4, 1, least, half);
        expected(4, greatest, greatest, 1);
        expected(4, greatest, greatest - 1, 0);
        expected(4, greatest, 0, 0);
        expected(4, greatest, top, top);
        expected(4, greatest, least + 1, top);
        expected(4, greatest, least, top - 1);
    }

    /** "5 x / d, if x is divisible by d, otherwise anything"; "-1 if anything is right" */
    private void exactMeanings() {
        expected(5, 1, 0, 0);
        expected(5, 1, top, top);
        expected(5, 2, 0, 0);
        expected(5, 2, 1, -1);
        expected(5, 2, top - 1, half - 1);
        expected(5, 2, top, -1);
        expected(5, top, 0, 0);
        expected(5, top, 1, -1);
        expected(5, top, top - 1, -1);
        expected(5, top, top, 1);
    }

    /** "6 1 if x is divisible by d, otherwise 0; 7 (x * d) modulo 2^w" */
    private void divisibilityAndProducts() {
        expected(6, 2, 0, 1);
        expected(6, 2, 1, 0);
        expected(6, 2, top, 0);
        expected(6, 2, top - 1, 1);
        expected(6, top, 0, 1);
        expected(6, top, top - 1, 0);
        expected(6, top, top, 1);
        expected(7, 0, 0, 0);
        expected(7, 0, top, 0);
        expected(7, 1, top, top);
        expected(7, top, top, 1);
        expected(7, top, 1, top);
        expected(7, half, 2, 0);
        expected(7, half, 3, half);
    }

    /** "the least such input that is at least from": the last input of all */
    private void onlyTheLastIsWrong() {
        // The input is the quotient by 2^w - 1 for none but 0; leu(2^w - 1, x) is it for all.
        ConstantDivider x = Bounds.ofWidth(w);
        x.append(11, true, top, false, 0);
        x.setTask(0, top);
        Check.due("wrong() of none", x.wrong(), 0);
        x.append(8, false, 0, true, 0);
        Check.due("wrong() of the last", x.wrong(), 1);
        for (int from : new int[] {0, 1, top - 1, top}) {
            Check.due("firstWrong(" + from + ") of the last", x.firstWrong(from), top);
        }
    }

    /** "at least from": the first input of all, which is found from 0 alone */
    private void onlyTheFirstIsWrong() {
        ConstantDivider x = Bounds.ofWidth(w);
        x.append(11, false, 0, true, 0);
        x.setTask(7, 0);
        Check.due("wrong() of the first", x.wrong(), 1);
        Check.due("firstWrong(0) of the first", x.firstWrong(0), 0);
        Check.due("firstWrong(1) behind the first", x.firstWrong(1), -1);
        Check.due("firstWrong(2^w - 1) behind the first", x.firstWrong(top), -1);
    }

    /** "-1 if there is none" */
    private void noneIsWrong() {
        ConstantDivider x = withTask(7, 1);
        Check.due("wrong() of none", x.wrong(), 0);
        Check.due("firstWrong(0) of none", x.firstWrong(0), -1);
        Check.due("firstWrong(2^w - 1) of none", x.firstWrong(top), -1);
    }

    /** "Counts the inputs for which the program is not right.": 2^w of them at most */
    private void allAreWrong() {
        ConstantDivider x = Bounds.chain(w, 1);
        x.setTask(7, 1);
        Check.due("wrong() of all", x.wrong(), top + 1);
        for (int from : new int[] {0, 1, half, top}) {
            Check.due("firstWrong(" + from + ") of all", x.firstWrong(from), from);
        }
    }

    /** "otherwise anything": no program is wrong for these, and 0 is divisible by all. */
    private void anythingIsRight() {
        ConstantDivider x = Bounds.chain(w, 1);
        x.setTask(5, top);
        // x + 1 is wrong for 0 and for 2^w - 1, which are all that is divisible.
        Check.due("wrong() of what is divisible", x.wrong(), 2);
        Check.due("firstWrong(0)", x.firstWrong(0), 0);
        Check.due("firstWrong(1)", x.firstWrong(1), top);
        x.setTask(5, half);
        Check.due("wrong() of 0 and 2^(w-1)", x.wrong(), 2);
        Check.due("firstWrong(2^(w-1))", x.firstWrong(half), half);
        Check.due("firstWrong(2^(w-1) + 1)", x.firstWrong(half + 1), -1);
    }

    /** "if there is no such value": with 0, 1 and 40 instructions; behind the result too */
    private static void valuesOfPrograms() {
        for (int length : new int[] {0, 1, 39, 40}) {
            Bounds.Maker maker = () -> Bounds.chain(8, length);
            Bounds.range("valueOf(7, value) of " + length + ", value is ", 0, length, Check.INDEX, maker,
                    (x, value) -> x.valueOf(7, value));
            ConstantDivider x = maker.make();
            x.setResult(0);
            for (int value = 0; value <= length; value++) {
                Check.due("valueOf(7, " + value + ")", x.valueOf(7, value), 7 + value);
            }
            Check.due("run(7) of value 0", x.run(7), 7);
        }
    }

    /** "If several exceptions apply to a call, the one that is listed first is thrown." */
    private static void inputsAreRefusedFirst() {
        for (int input : new int[] {-1, 256}) {
            for (int value : new int[] {-1, 6}) {
                Bounds.refused("valueOf(" + input + ", " + value + ")", Check.ARGUMENT, () -> Bounds.chain(8, 5),
                        x -> x.valueOf(input, value));
            }
        }
        for (int input : new int[] {0, 255}) {
            for (int value : new int[] {-1, 6}) {
                Bounds.refused("valueOf(" + input + ", " + value + ")", Check.INDEX, () -> Bounds.chain(8, 5),
                        x -> x.valueOf(input, value));
            }
        }
    }
}
