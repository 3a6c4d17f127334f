/** "An object is used for at most 512 calls after it has been made": the 512th answers as an early one would. */
public final class CallsTest {
    private static final int CALLS = 512;
    private static final int LAST_CALLS = 42;

    private interface Answered {
        long by(ConstantDivider x);
    }

    public static void main(String[] args) {
        lastCallOfEachKind();
        lastCallRefused();
        refusedCallsAlone();
        editsAlone();
        undosAtTheEnd();
        widthsAlone();
        Check.end();
    }

    /** So many calls, of which the last 42 lead to one and the same state: 40 instructions, a task, 8 states. */
    private static ConstantDivider usedFor(int calls) {
        ConstantDivider x = new ConstantDivider();
        for (int i = LAST_CALLS; i < calls; i++) {
            earlyCall(x, i);
        }
        x.setWidth(9);
        for (int i = 0; i < Bounds.MOST_INSTRUCTIONS; i++) {
            x.append(i % 12, false, i, true, 1 + i % 8);
        }
        x.setTask(3, -5);
        return x;
    }

    /** One call; each sixth is refused. */
    private static void earlyCall(ConstantDivider x, int i) {
        switch ((i - LAST_CALLS) % 12) {
            case 0: x.setWidth(4 + i % 13); break;
            case 1: x.build(i % 8, 2 + i % 6); break;
            case 2: x.append(9, false, 0, true, i % 16); break;
            case 3: x.setTask(2, -8 + i % 8); break;
            case 4: x.setResult(0); break;
            case 5: Check.due("a refused call", Check.thrownBy(() -> x.setWidth(17)), Check.ARGUMENT); break;
            case 6: x.tidy(); break;
            case 7: x.undo(); break;
            case 8: x.wrong(); break;
            case 9: x.drop(); break;
            case 10: x.reach(i, i % 41, i); break;
            default: Check.due("a refused call", Check.thrownBy(() -> x.setResult(41)), Check.INDEX); break;
        }
    }

    private static void lastCallOfEachKind() {
        Answered[] calls = {x -> x.setWidth(16), x -> x.width(), x -> x.setCost(2, 20), x -> x.multiplier(511),
            x -> x.shift(510), x -> x.signedMultiplier(255), x -> x.inverse(509), x -> x.digits(341),
            x -> x.build(3, -7), x -> x.setTask(7, 0), x -> x.setResult(0), x -> x.drop(), x -> x.tidy(),
            x -> x.undo(), x -> x.instructions(), x -> x.operation(39), x -> x.operand(39, 0),
            x -> x.isConstant(39, 1) ? 1 : 0, x -> x.result(), x -> x.cost(), x -> x.depth(), x -> x.listingChar(600),
            x -> x.run(511), x -> x.valueOf(511, 39), x -> x.expected(511), x -> x.firstWrong(100), x -> x.wrong(),
            x -> x.reach(755974, 35, 45451), x -> x.floatReciprocal(7), x -> x.doubleReciprocal(7),
            x -> x.firstFloatError(41), x -> x.firstDoubleError(49), x -> x.leastRaise(41)};
        for (int i = 0; i < calls.length; i++) {
            ConstantDivider early = usedFor(LAST_CALLS);
            ConstantDivider late = usedFor(CALLS - 1);
            Check.due("the 512th call, " + i, calls[i].by(late), calls[i].by(early));
        }
        ConstantDivider late = new ConstantDivider();
        for (int i = 1; i < CALLS; i++) {
            late.result();
        }
        Check.due("the 512th call, append", late.append(3, false, 0, true, 1), 1);
    }

    private static void lastCallRefused() {
        Bounds.CallOn[] calls = {x -> x.append(3, false, 0, true, 1), x -> x.append(3, false, 41, true, 1),
            x -> x.setResult(41), x -> x.valueOf(512, 41), x -> x.listingChar(-1), x -> x.build(4, 256)};
        String[] due = {Check.STATE, Check.ARGUMENT, Check.INDEX, Check.ARGUMENT, Check.INDEX, Check.ARGUMENT};
        for (int i = 0; i < calls.length; i++) {
            ConstantDivider x = usedFor(CALLS - 1);
            Bounds.CallOn call = calls[i];
            Check.due("the 512th call, refused " + i, Check.thrownBy(() -> call.on(x)), due[i]);
        }
    }

    private static void refusedCallsAlone() {
        ConstantDivider x = new ConstantDivider();
        for (int i = 1; i <= CALLS - 3; i += 3) {
            Check.due("undo()", Check.thrownBy(x::undo), Check.STATE);
            Check.due("setWidth(3)", Check.thrownBy(() -> x.setWidth(3)), Check.ARGUMENT);
            Check.due("operation(0)", Check.thrownBy(() -> x.operation(0)), Check.INDEX);
        }
        Check.due("build behind 510 refused ones", x.build(0, 10), 2);
        Check.due("undo() of it", x.undo(), 0);
    }

    private static void editsAlone() {
        ConstantDivider x = new ConstantDivider();
        for (int i = 1; i < CALLS; i++) {
            x.setTask(7, i % 256);
        }
        Check.due("the 512th edit tells the task before", x.setTask(0, 1), 7);
    }

    /** 503 edits, the undos of 8 and a refused one are 512 calls. */
    private static void undosAtTheEnd() {
        ConstantDivider x = new ConstantDivider();
        int edits = CALLS - Bounds.MOST_STATES - 1;
        for (int i = 0; i < edits; i++) {
            if (i % 2 == 0) {
                x.append(3, false, 0, true, 1);
            } else {
                x.drop();
            }
        }
        for (int left = Bounds.MOST_STATES - 1; left >= 0; left--) {
            Check.due("undo() at the end", x.undo(), left);
        }
        Check.due("the 512th call", Check.thrownBy(x::undo), Check.STATE);
    }

    private static void widthsAlone() {
        ConstantDivider x = new ConstantDivider();
        int previous = 8;
        for (int i = 1; i <= CALLS; i++) {
            int width = i % 2 == 0 ? 4 : 16;
            Check.due("setWidth " + i, x.setWidth(width), previous);
            previous = width;
        }
    }
}
