/** The boundary cases of promises 1 to 4, and of widths and costs under "Terms". */
public final class BoundsOfSettingsTest {
    public static void main(String[] args) {
        newObjectHasEightBits();
        newObjectIsEmpty();
        newObjectHasTheFirstCosts();
        widthFromFourToSixteen();
        previousWidth();
        widthEmptiesTheProgram();
        numbersOfEachWidth();
        whichFromZeroToTwo();
        costFromOneToTwenty();
        whichIsRefusedBeforeCost();
        previousCost();
        costsOfOperations();
        Check.end();
    }

    /** "Creates a generator for 8 bits" */
    private static void newObjectHasEightBits() {
        Check.due("width()", new ConstantDivider().width(), 8);
        Bounds.range("run", 0, 255, Check.ARGUMENT, ConstantDivider::new, (x, n) -> x.run(n));
        Bounds.range("digits", 0, 255, Check.ARGUMENT, ConstantDivider::new, (x, n) -> x.digits(n));
    }

    /** ".. with an empty program"; "initially value 0"; "a task .. at first none" */
    private static void newObjectIsEmpty() {
        ConstantDivider x = new ConstantDivider();
        Check.due("instructions()", x.instructions(), 0);
        Check.due("result()", x.result(), 0);
        Check.due("cost()", x.cost(), 0);
        Check.due("depth()", x.depth(), 0);
        Check.due("listing", Check.listing(x), "return v0\n");
        Bounds.refused("operation(0)", Check.INDEX, ConstantDivider::new, y -> y.operation(0));
        Bounds.refused("drop()", Check.STATE, ConstantDivider::new, y -> y.drop());
        Bounds.refused("undo()", Check.STATE, ConstantDivider::new, y -> y.undo());
        Bounds.refused("wrong()", Check.STATE, ConstantDivider::new, y -> y.wrong());
        Check.due("setTask(7, 0) tells no task", x.setTask(7, 0), -1);
    }

    /** "0 of mul (initially 3), 1 of mulhu and mulhs (initially 5), 2 of each other operation (initially 1)" */
    private static void newObjectHasTheFirstCosts() {
        ConstantDivider x = new ConstantDivider();
        Check.due("setCost(0, 20)", x.setCost(0, 20), 3);
        Check.due("setCost(1, 20)", x.setCost(1, 20), 5);
        Check.due("setCost(2, 20)", x.setCost(2, 20), 1);
    }

    /** "w, 4 to 16"; "if width is out of its range" */
    private static void widthFromFourToSixteen() {
        Bounds.range("setWidth", 4, 16, Check.ARGUMENT, ConstantDivider::new, (x, n) -> x.setWidth(n));
        Bounds.range("setWidth", 4, 16, Check.ARGUMENT, Bounds::busy, (x, n) -> x.setWidth(n));
        Bounds.range("setWidth", 4, 16, Check.ARGUMENT, Bounds::full, (x, n) -> x.setWidth(n));
        // Java's shifts take 36 as 4 and 48 as 16.
        for (int width : new int[] {0, -4, -28, -16, 32, 36, 48, 64}) {
            Bounds.refused("setWidth(" + width + ")", Check.ARGUMENT, Bounds::busy, x -> x.setWidth(width));
        }
    }

    /** "Returns the previous width." */
    private static void previousWidth() {
        ConstantDivider x = new ConstantDivider();
        Check.due("setWidth(4) from 8", x.setWidth(4), 8);
        Check.due("setWidth(4) from 4", x.setWidth(4), 4);
        Check.due("setWidth(16) from 4", x.setWidth(16), 4);
        Check.due("setWidth(16) from 16", x.setWidth(16), 16);
        Check.due("setWidth(4) from 16", x.setWidth(4), 16);
        Check.due("a refused width", Check.thrownBy(() -> x.setWidth(17)), Check.ARGUMENT);
        Check.due("setWidth(5) behind a refused one", x.setWidth(5), 4);
        x.undo();
        Check.due("setWidth(5) behind undo", x.setWidth(5), 4);
    }

    /** "The program is empty then, its result is value 0, and there is no task." */
    private static void widthEmptiesTheProgram() {
        for (int width : new int[] {4, 15, 16}) {
            ConstantDivider x = Bounds.full();
            Check.due("setWidth(" + width + ") from 16", x.setWidth(width), 16);
            Check.due("no instructions then", x.instructions(), 0);
            Check.due("value 0 then", x.result(), 0);
            Check.due("listing then", Check.listing(x), "return v0\n");
            Check.due("no task then", Check.task(x), "no task");
            Check.due("no kind then", x.setTask(0, 1), -1);
        }
    }

    /** "The machine works with values of w bits .. numbers from 0 to 2^w - 1" */
    private static void numbersOfEachWidth() {
        for (int width = 4; width <= 16; width++) {
            int w = width;
            int top = (1 << w) - 1;
            ConstantDivider x = Bounds.ofWidth(w);
            Check.due("width()", x.width(), w);
            Check.due("run(0) with " + w + " bits", x.run(0), 0);
            Check.due("run(2^w - 1) with " + w + " bits", x.run(top), top);
            Bounds.range("run", 0, top, Check.ARGUMENT, () -> Bounds.ofWidth(w), (y, n) -> y.run(n));
        }
    }

    /** "which: 0 to 2" */
    private static void whichFromZeroToTwo() {
        Bounds.range("setCost(which, 1), which is ", 0, 2, Check.INDEX, Bounds::busy, (x, n) -> x.setCost(n, 1));
    }

    /** "cost: 1 to 20"; "There are three costs, from 1 to 20" */
    private static void costFromOneToTwenty() {
        for (int which = 0; which <= 2; which++) {
            int w = which;
            Bounds.range("setCost(" + w + ", cost), cost is ", 1, 20, Check.ARGUMENT, Bounds::busy,
                    (x, n) -> x.setCost(w, n));
        }
    }

    /** "If several exceptions apply to a call, the one that is listed first is thrown." */
    private static void whichIsRefusedBeforeCost() {
        for (int which : new int[] {-1, 3}) {
            for (int cost : new int[] {0, 21}) {
                Bounds.refused("setCost(" + which + ", " + cost + ")", Check.INDEX, Bounds::busy,
                        x -> x.setCost(which, cost));
            }
        }
    }

    /** "Returns the previous cost." */
    private static void previousCost() {
        for (int which = 0; which <= 2; which++) {
            ConstantDivider x = new ConstantDivider();
            int w = which;
            x.setCost(w, 1);
            Check.due("setCost(" + w + ", 20) from 1", x.setCost(w, 20), 1);
            Check.due("setCost(" + w + ", 20) from 20", x.setCost(w, 20), 20);
            Check.due("a refused cost", Check.thrownBy(() -> x.setCost(w, 21)), Check.ARGUMENT);
            Check.due("setCost(" + w + ", 1) from 20", x.setCost(w, 1), 20);
            Check.due("a refused cost", Check.thrownBy(() -> x.setCost(w, 0)), Check.ARGUMENT);
            Check.due("setCost(" + w + ", 1) from 1", x.setCost(w, 1), 1);
        }
    }

    /** The least and the greatest cost of each operation, and none that another cost changes. */
    private static void costsOfOperations() {
        for (int op = 0; op <= 11; op++) {
            int its = op == 5 ? 0 : op == 6 || op == 7 ? 1 : 2;
            ConstantDivider x = new ConstantDivider();
            x.append(op, false, 0, true, 1);
            for (int which = 0; which <= 2; which++) {
                x.setCost(which, which == its ? 20 : 1);
            }
            Check.due("the greatest cost of operation " + op, x.cost(), 20);
            for (int which = 0; which <= 2; which++) {
                x.setCost(which, which == its ? 1 : 20);
            }
            Check.due("the least cost of operation " + op, x.cost(), 1);
        }
    }
}
