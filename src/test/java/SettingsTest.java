/** Promises 1 to 4: a new object, setWidth, width, setCost. */
public final class SettingsTest {
    public static void main(String[] args) {
        newObject();
        widths();
        widthClearsAll();
        widthIsAnEdit();
        wrongWidths();
        costs();
        wrongCosts();
        costIsNoEdit();
        Check.end();
    }

    private static void newObject() {
        ConstantDivider x = new ConstantDivider();
        Check.due("new: width()", x.width(), 8);
        Check.due("new: instructions()", x.instructions(), 0);
        Check.due("new: result()", x.result(), 0);
        Check.due("new: cost()", x.cost(), 0);
        Check.due("new: depth()", x.depth(), 0);
        Check.due("new: listing", Check.listing(x), "return v0\n");
        Check.due("new: run(0)", x.run(0), 0);
        Check.due("new: run(255)", x.run(255), 255);
        Check.refused(x, "new: expected(0)", Check.STATE, () -> x.expected(0));
        Check.refused(x, "new: wrong()", Check.STATE, () -> x.wrong());
        Check.refused(x, "new: firstWrong(0)", Check.STATE, () -> x.firstWrong(0));
        Check.refused(x, "new: undo()", Check.STATE, () -> x.undo());
        Check.due("new: setCost(0, 9)", x.setCost(0, 9), 3);
        Check.due("new: setCost(1, 9)", x.setCost(1, 9), 5);
        Check.due("new: setCost(2, 9)", x.setCost(2, 9), 1);
        Check.due("new: setTask(0, 3)", x.setTask(0, 3), -1);
        ConstantDivider other = new ConstantDivider();
        Check.due("another object has costs of its own", other.setCost(0, 1), 3);
        Check.due("another object has a task of its own", other.setTask(0, 3), -1);
    }

    private static void widths() {
        ConstantDivider x = new ConstantDivider();
        int previous = 8;
        for (int width = 4; width <= 16; width++) {
            Check.due("setWidth(" + width + ")", x.setWidth(width), previous);
            Check.due("width()", x.width(), width);
            Check.due("run(greatest)", x.run((1 << width) - 1), (1 << width) - 1);
            previous = width;
        }
        Check.due("setWidth(4)", x.setWidth(4), 16);
    }

    private static void widthClearsAll() {
        for (int width : new int[] {8, 16}) {
            ConstantDivider x = new ConstantDivider();
            x.setCost(1, 7);
            x.build(0, 7);
            Check.due("setWidth behind build", x.setWidth(width), 8);
            Check.due("no instructions then", x.instructions(), 0);
            Check.due("value 0 is the result then", x.result(), 0);
            Check.due("listing then", Check.listing(x), "return v0\n");
            Check.due("no task then", Check.task(x), "no task");
            Check.due("setTask tells no former task", x.setTask(7, 1), -1);
            Check.due("the costs stay", x.setCost(1, 5), 7);
        }
    }

    private static void widthIsAnEdit() {
        ConstantDivider x = new ConstantDivider();
        x.build(0, 7);
        x.setResult(2);
        String before = Check.seen(x);
        x.setWidth(8);
        Check.due("undo() of setWidth(8)", x.undo(), 2);
        Check.due("undone setWidth(8)", Check.seen(x), before);
        x.setWidth(12);
        Check.due("undo() of setWidth(12)", x.undo(), 2);
        Check.due("undone setWidth(12)", Check.seen(x), before);
    }

    private static void wrongWidths() {
        ConstantDivider x = new ConstantDivider();
        for (int width : new int[] {3, 17, 0, -1, -8, 32, 36, Integer.MIN_VALUE, Integer.MAX_VALUE}) {
            Check.refused(x, "setWidth(" + width + ")", Check.ARGUMENT, () -> x.setWidth(width));
        }
        Check.refused(x, "undo() behind refused widths", Check.STATE, () -> x.undo());
        x.build(3, -5);
        for (int width : new int[] {3, 17}) {
            Check.refused(x, "setWidth(" + width + ") behind build", Check.ARGUMENT, () -> x.setWidth(width));
        }
        Check.due("undo() behind build", x.undo(), 0);
    }

    private static void costs() {
        ConstantDivider x = new ConstantDivider();
        Check.due("setCost(0, 20)", x.setCost(0, 20), 3);
        Check.due("setCost(0, 1)", x.setCost(0, 1), 20);
        Check.due("setCost(0, 2)", x.setCost(0, 2), 1);
        Check.due("setCost(1, 20)", x.setCost(1, 20), 5);
        Check.due("setCost(2, 20)", x.setCost(2, 20), 1);
        Check.due("setCost(2, 4)", x.setCost(2, 4), 20);
        x.append(5, false, 0, true, 3);
        Check.due("cost() of mul", x.cost(), 2);
        x.append(6, false, 0, true, 3);
        Check.due("cost() with mulhu", x.cost(), 22);
        x.append(7, false, 0, true, 3);
        Check.due("cost() with mulhs", x.cost(), 42);
        x.append(11, false, 0, true, 3);
        Check.due("cost() with leu", x.cost(), 46);
    }

    private static void wrongCosts() {
        ConstantDivider x = new ConstantDivider();
        for (int which : new int[] {-1, 3, Integer.MIN_VALUE, Integer.MAX_VALUE}) {
            Check.refused(x, "setCost(" + which + ", 1)", Check.INDEX, () -> x.setCost(which, 1));
            Check.refused(x, "setCost(" + which + ", 0)", Check.INDEX, () -> x.setCost(which, 0));
        }
        for (int cost : new int[] {0, 21, -1, Integer.MIN_VALUE, Integer.MAX_VALUE}) {
            for (int which = 0; which < 3; which++) {
                int w = which;
                Check.refused(x, "setCost(" + w + ", " + cost + ")", Check.ARGUMENT, () -> x.setCost(w, cost));
            }
        }
        Check.due("the cost of mul stays", x.setCost(0, 1), 3);
    }

    private static void costIsNoEdit() {
        ConstantDivider x = new ConstantDivider();
        x.setCost(0, 9);
        Check.refused(x, "undo() behind setCost", Check.STATE, () -> x.undo());
        x.build(0, 10);
        x.setCost(1, 9);
        Check.due("undo() of build", x.undo(), 0);
        Check.due("undo() leaves the costs", x.setCost(1, 5), 9);
        Check.due("undo() leaves older costs", x.setCost(0, 3), 9);
    }
}
