/** The boundary cases of "Edits" and "Exceptions", and of promise 16. */
public final class BoundsOfHistoryTest {
    public static void main(String[] args) {
        nothingToUndo();
        oneEdit();
        eightStatesAtMost();
        statesAfterManyEdits();
        undoAndEditInTurns();
        eachEditAddsOneState();
        editsThatChangeNothingSeen();
        otherCallsAddNoState();
        refusedCallsAddNoState();
        statesAreRestoredWhole();
        costsAreNoState();
        Check.end();
    }

    /** The task tells how many edits were made: after edit i it is the product by i. */
    private static void edit(ConstantDivider x, int i) {
        x.setTask(7, i);
    }

    private static int editsLeft(ConstantDivider x) {
        return Check.task(x).equals("no task") ? 0 : x.expected(1);
    }

    private static void noMore(ConstantDivider x) {
        String before = Check.seen(x);
        Check.due("undo() of nothing", Check.thrownBy(x::undo), Check.STATE);
        Check.due("undo() of nothing again", Check.thrownBy(x::undo), Check.STATE);
        Check.due("undo() of nothing changes nothing", Check.seen(x), before);
    }

    /** "if no edit can be undone" */
    private static void nothingToUndo() {
        noMore(new ConstantDivider());
        ConstantDivider x = new ConstantDivider();
        Check.due("a refused edit", Check.thrownBy(() -> x.setWidth(3)), Check.ARGUMENT);
        noMore(x);
        x.setCost(0, 1);
        noMore(x);
    }

    /** "Returns how many edits can still be undone.": 0 behind the only one */
    private static void oneEdit() {
        ConstantDivider x = new ConstantDivider();
        edit(x, 1);
        Check.due("undo() of the only edit", x.undo(), 0);
        noMore(x);
        Check.due("all undone", Check.seen(x), Check.seen(new ConstantDivider()));
    }

    /** "at most 8 states"; "if there are 8 already, the oldest one is dropped" */
    private static void eightStatesAtMost() {
        for (int edits = 1; edits <= 20; edits++) {
            ConstantDivider x = new ConstantDivider();
            for (int i = 1; i <= edits; i++) {
                edit(x, i);
            }
            int states = Math.min(edits, 8);
            for (int left = states - 1; left >= 0; left--) {
                Check.due("undo() of " + edits + " edits", x.undo(), left);
                int due = edits - states + left;
                Check.due("what is left of " + edits + " edits", editsLeft(x), due);
            }
            noMore(x);
            Check.due("the first state is kept of " + edits, Check.task(x).equals("no task"), edits <= 8);
        }
    }

    /** The oldest one is dropped, however many there were. */
    private static void statesAfterManyEdits() {
        ConstantDivider x = Bounds.ofWidth(16);
        for (int i = 1; i <= 400; i++) {
            x.setTask(7, i);
        }
        for (int left = 7; left >= 0; left--) {
            Check.due("undo() of 400", x.undo(), left);
            Check.due("the task before", x.expected(1), 392 + left);
        }
        noMore(x);
    }

    /** "undo() removes the latest state from the history": the room that it leaves is used again, no more. */
    private static void undoAndEditInTurns() {
        for (int undone = 1; undone <= 8; undone++) {
            ConstantDivider x = new ConstantDivider();
            for (int i = 1; i <= 10; i++) {
                edit(x, i);
            }
            for (int i = 1; i <= undone; i++) {
                Check.due("undo()", x.undo(), 8 - i);
            }
            for (int i = 1; i <= undone; i++) {
                x.setTask(7, 100 + i);
            }
            for (int i = undone; i >= 1; i--) {
                Check.due("the newer task", x.expected(1), 100 + i);
                Check.due("undo() of a newer one", x.undo(), 8 - undone + i - 1);
            }
            for (int left = 8 - undone; left >= 1; left--) {
                Check.due("the older task", editsLeft(x), 2 + left);
                Check.due("undo() of an older one", x.undo(), left - 1);
            }
            Check.due("the oldest task", editsLeft(x), 2);
            noMore(x);
        }
        ConstantDivider x = new ConstantDivider();
        edit(x, 1);
        for (int i = 0; i < 50; i++) {
            x.append(3, false, 0, true, 1);
            Check.due("undo() of append", x.undo(), 1);
        }
        Check.due("undo() is no edit", x.undo(), 0);
        noMore(x);
    }

    /** "Each call of setWidth(), build(), setTask(), append(), setResult(), drop() and tidy() .. is an edit." */
    private static void eachEditAddsOneState() {
        Bounds.CallOn[] edits = {x -> x.setWidth(4), x -> x.build(7, 3), x -> x.setTask(7, 3),
            x -> x.append(3, false, 0, true, 3), x -> x.setResult(1), x -> x.drop(), x -> x.tidy()};
        for (int i = 0; i < edits.length; i++) {
            ConstantDivider x = new ConstantDivider();
            x.build(0, 7);
            x.setResult(2);
            String before = Check.seen(x);
            edits[i].on(x);
            Check.due("edit " + i + " is seen", Check.seen(x).equals(before), false);
            Check.due("undo() of edit " + i, x.undo(), 2);
            Check.due("edit " + i + " undone", Check.seen(x), before);
        }
    }

    /** ".. that throws no exception is an edit", also one that leaves all as it was */
    private static void editsThatChangeNothingSeen() {
        Bounds.CallOn[] edits = {x -> x.build(0, 7), x -> x.setTask(0, 7), x -> x.setResult(5), x -> x.tidy()};
        for (int i = 0; i < edits.length; i++) {
            ConstantDivider x = new ConstantDivider();
            x.build(0, 7);
            String before = Check.seen(x);
            edits[i].on(x);
            Check.due("edit " + i + " is not seen", Check.seen(x), before);
            Check.due("undo() of edit " + i, x.undo(), 1);
            Check.due("nothing is undone", Check.seen(x), before);
            Check.due("undo() of build", x.undo(), 0);
        }
        Bounds.CallOn[] first = {x -> x.setWidth(8), x -> x.setResult(0), x -> x.tidy()};
        for (Bounds.CallOn edit : first) {
            ConstantDivider x = new ConstantDivider();
            edit.on(x);
            Check.due("undo() of an edit of nothing", x.undo(), 0);
            noMore(x);
        }
    }

    /** The calls that are not named add no state, and drop none when there are 8. */
    private static void otherCallsAddNoState() {
        Bounds.CallOn[] others = {x -> x.width(), x -> x.setCost(0, 7), x -> x.multiplier(3), x -> x.shift(3),
            x -> x.signedMultiplier(3), x -> x.inverse(3), x -> x.digits(3), x -> x.instructions(),
            x -> x.operation(0), x -> x.operand(0, 0), x -> x.isConstant(0, 0), x -> x.result(), x -> x.cost(),
            x -> x.depth(), x -> x.listingChar(0), x -> x.run(3), x -> x.valueOf(3, 0), x -> x.expected(3),
            x -> x.firstWrong(0), x -> x.wrong(), x -> x.reach(3, 3, 3), x -> x.floatReciprocal(3),
            x -> x.doubleReciprocal(3), x -> x.firstFloatError(41), x -> x.firstDoubleError(49), x -> x.leastRaise(41)};
        String busy = Bounds.story(Bounds.busy());
        String full = Bounds.story(Bounds.full());
        for (int i = 0; i < others.length; i++) {
            ConstantDivider x = Bounds.busy();
            others[i].on(x);
            Check.due("call " + i + " changes nothing", Bounds.story(x), busy);
            ConstantDivider y = Bounds.full();
            others[i].on(y);
            y.setCost(0, 3);
            Check.due("call " + i + " changes nothing of a full one", Bounds.story(y), full);
        }
    }

    /** "A call that throws an exception changes nothing.": each call that can throw, on a full history */
    private static void refusedCallsAddNoState() {
        Bounds.CallOn[] arguments = {x -> x.setWidth(17), x -> x.setCost(2, 21), x -> x.multiplier(0), x -> x.shift(0),
            x -> x.signedMultiplier(0), x -> x.inverse(2), x -> x.digits(-1), x -> x.build(6, 1), x -> x.setTask(2, 0),
            x -> x.append(12, false, 0, true, 0), x -> x.run(-1), x -> x.valueOf(-1, 0), x -> x.expected(-1),
            x -> x.firstWrong(-1), x -> x.reach(-1, 0, 1), x -> x.floatReciprocal(0), x -> x.doubleReciprocal(0),
            x -> x.firstFloatError(0), x -> x.firstDoubleError(0), x -> x.leastRaise(0)};
        Bounds.CallOn[] indexes = {x -> x.setCost(3, 1), x -> x.setResult(41), x -> x.operation(40),
            x -> x.operand(40, 0), x -> x.operand(0, 2), x -> x.isConstant(40, 0), x -> x.isConstant(0, 2),
            x -> x.listingChar(-1), x -> x.valueOf(0, 41)};
        for (Bounds.Maker maker : new Bounds.Maker[] {ConstantDivider::new, Bounds::busy, Bounds::full}) {
            for (int i = 0; i < arguments.length; i++) {
                Bounds.refused("refused argument " + i, Check.ARGUMENT, maker, arguments[i]);
            }
            for (int i = 0; i < indexes.length; i++) {
                Bounds.refused("refused index " + i, Check.INDEX, maker, indexes[i]);
            }
        }
        Bounds.refused("append to 40", Check.STATE, Bounds::full, x -> x.append(3, false, 0, true, 0));
        Bounds.CallOn[] states = {x -> x.drop(), x -> x.expected(0), x -> x.firstWrong(0), x -> x.wrong()};
        for (int i = 0; i < states.length; i++) {
            Bounds.refused("refused state " + i, Check.STATE, ConstantDivider::new, states[i]);
            Bounds.refused("refused state " + i, Check.STATE, BoundsOfHistoryTest::emptyWithEightStates, states[i]);
        }
    }

    private static ConstantDivider emptyWithEightStates() {
        ConstantDivider x = Bounds.full();
        x.setWidth(5);
        return x;
    }

    /** "(width, program, result and task)": each of them at both ends of its range */
    private static void statesAreRestoredWhole() {
        ConstantDivider x = Bounds.full();
        x.setResult(0);
        String fullOne = Check.seen(x);
        x.setWidth(4);
        String emptyOne = Check.seen(x);
        x.build(7, 15);
        x.setWidth(16);
        x.build(3, -32768);
        Check.due("undo() of build", x.undo(), 7);
        Check.due("undo() of setWidth(16)", x.undo(), 6);
        Check.due("4 bits again", x.width(), 4);
        Check.due("the task again", x.expected(15), 1);
        Check.due("inputs of 4 bits again", Check.thrownBy(() -> x.run(16)), Check.ARGUMENT);
        Check.due("undo() of build with 4 bits", x.undo(), 5);
        Check.due("empty again", Check.seen(x), emptyOne);
        Check.due("no task again", Check.thrownBy(x::wrong), Check.STATE);
        Check.due("undo() of setWidth(4)", x.undo(), 4);
        Check.due("full again", Check.seen(x), fullOne);
        Check.due("40 again", x.instructions(), 40);
        Check.due("result 0 again", x.result(), 0);
        Check.due("inputs of 16 bits again", x.run(65535), 65535);
        Check.due("full again", Check.thrownBy(() -> x.append(3, false, 0, true, 1)), Check.STATE);
        Check.due("undo() of setResult(0)", x.undo(), 3);
        Check.due("result 40 again", x.result(), 40);
        Check.due("value 40 again", x.run(65535), 39);
    }

    /** "states (width, program, result and task)": setCost() is no edit, and undo() leaves the costs. */
    private static void costsAreNoState() {
        ConstantDivider x = new ConstantDivider();
        x.setCost(0, 1);
        x.build(7, 3);
        x.setCost(0, 20);
        x.setCost(1, 20);
        x.setCost(2, 20);
        Check.due("undo() of build", x.undo(), 0);
        for (int which = 0; which <= 2; which++) {
            Check.due("cost " + which + " stays", x.setCost(which, 20), 20);
        }
        noMore(x);
    }
}
