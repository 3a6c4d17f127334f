/** The four examples of the document, answer by answer. */
public final class ExamplesTest {
    public static void main(String[] args) {
        unsignedQuotients();
        signedQuotients();
        programByHand();
        reciprocals();
        Check.end();
    }

    private static void unsignedQuotients() {
        ConstantDivider x = new ConstantDivider();
        Check.due("build(0, 10)", x.build(0, 10), 2);
        Check.due("instructions()", x.instructions(), 2);
        Check.due("operation(0)", x.operation(0), 6);
        Check.due("operand(0, 1)", x.operand(0, 1), 205);
        Check.due("cost()", x.cost(), 6);
        Check.due("run(255)", x.run(255), 25);
        Check.due("wrong()", x.wrong(), 0);
        Check.due("multiplier(7)", x.multiplier(7), 293);
        Check.due("shift(7)", x.shift(7), 3);
        Check.due("build(0, 7)", x.build(0, 7), 5);
        Check.due("instructions()", x.instructions(), 5);
    }

    private static void signedQuotients() {
        ConstantDivider x = new ConstantDivider();
        Check.due("build(2, -7)", x.build(2, -7), 6);
        Check.due("run(100)", x.run(100), 242);
        Check.due("run(156)", x.run(156), 14);
        Check.due("expected(156)", x.expected(156), 14);
        Check.due("wrong()", x.wrong(), 0);
        Check.due("depth()", x.depth(), 5);
    }

    private static void programByHand() {
        ConstantDivider x = new ConstantDivider();
        Check.due("append(5, v0, 86)", x.append(5, false, 0, true, 86), 1);
        Check.refused(x, "append(1, v1, 8)", Check.ARGUMENT, () -> x.append(1, false, 1, true, 8));
        Check.due("append(6, v0, 86)", x.append(6, false, 0, true, 86), 2);
        Check.due("setTask(0, 3)", x.setTask(0, 3), -1);
        Check.due("firstWrong(0)", x.firstWrong(0), 128);
        Check.due("wrong()", x.wrong(), 43);
        Check.due("tidy()", x.tidy(), 1);
        Check.due("instructions()", x.instructions(), 1);
    }

    private static void reciprocals() {
        ConstantDivider x = new ConstantDivider();
        Check.due("firstFloatError(41)", x.firstFloatError(41), 41);
        Check.due("firstDoubleError(49)", x.firstDoubleError(49), 49);
        Check.due("leastRaise(41)", x.leastRaise(41), 1);
        Check.refused(x, "build(6, 1)", Check.ARGUMENT, () -> x.build(6, 1));
        Check.refused(x, "wrong()", Check.STATE, () -> x.wrong());
        Check.due("inverse(3)", x.inverse(3), 171);
    }
}
