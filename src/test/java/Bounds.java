/** What the tests of boundary cases share. */
final class Bounds {
    interface Maker {
        ConstantDivider make();
    }

    interface CallOn {
        void on(ConstantDivider x);
    }

    interface CallWith {
        void with(ConstantDivider x, int argument);
    }

    static final int LEAST_WIDTH = 4;
    static final int GREATEST_WIDTH = 16;
    static final int MOST_INSTRUCTIONS = 40;
    static final int MOST_STATES = 8;

    private Bounds() {
    }

    static ConstantDivider ofWidth(int width) {
        ConstantDivider x = new ConstantDivider();
        x.setWidth(width);
        return x;
    }

    /** A chain of so many instructions, each of which adds 1 to the value before it. */
    static ConstantDivider chain(int width, int instructions) {
        ConstantDivider x = ofWidth(width);
        for (int i = 0; i < instructions; i++) {
            x.append(3, false, i, true, 1);
        }
        return x;
    }

    /** Costs, width, program, result, task and history are none of them those of a new object. */
    static ConstantDivider busy() {
        ConstantDivider x = new ConstantDivider();
        x.setCost(0, 7);
        x.setCost(1, 8);
        x.setCost(2, 9);
        x.build(0, 7);
        x.setWidth(9);
        int built = x.build(3, -5);
        x.append(6, false, 0, true, 511);
        x.append(6, false, 0, true, 511);
        x.append(9, false, built, false, built + 2);
        x.tidy();
        x.setTask(4, 255);
        x.drop();
        x.append(2, false, 0, true, 8);
        x.setResult(2);
        return x;
    }

    /** A program of 40 instructions, a task and a history of 8 states. */
    static ConstantDivider full() {
        ConstantDivider x = chain(16, MOST_INSTRUCTIONS);
        x.setTask(7, 1);
        return x;
    }

    /** All that can be seen of an object and of the states before it; it undoes them. */
    static String story(ConstantDivider x) {
        StringBuilder text = new StringBuilder(Check.seen(x));
        for (int i = 0; i <= MOST_STATES && Check.thrownBy(x::undo).equals("nothing"); i++) {
            text.append("\nbefore: ").append(Check.seen(x));
        }
        return text.toString();
    }

    /** The call throws that exception, and the object is as a twin that was not called, its history too. */
    static void refused(String text, String exception, Maker maker, CallOn call) {
        ConstantDivider x = maker.make();
        Check.due(text + " throws", Check.thrownBy(() -> call.on(x)), exception);
        Check.due(text + " changes nothing", story(x), story(maker.make()));
    }

    static void allowed(String text, Maker maker, CallOn call) {
        ConstantDivider x = maker.make();
        Check.due(text + " throws", Check.thrownBy(() -> call.on(x)), "nothing");
    }

    /** The last arguments that are allowed on each side, the first that are not, and those farthest away. */
    static void range(String name, int least, int greatest, String exception, Maker maker, CallWith call) {
        for (int argument : new int[] {least, greatest}) {
            allowed(name + "(" + argument + ")", maker, x -> call.with(x, argument));
        }
        for (int argument : new int[] {least - 1, greatest + 1, Integer.MIN_VALUE, Integer.MAX_VALUE}) {
            refused(name + "(" + argument + ")", exception, maker, x -> call.with(x, argument));
        }
    }

    /** The instructions of a listing, without their "v1 = "; the last one's value is the result. */
    static String listing(String... lines) {
        StringBuilder text = new StringBuilder();
        for (int i = 0; i < lines.length; i++) {
            text.append("v").append(i + 1).append(" = ").append(lines[i]).append("\n");
        }
        return text.append("return v").append(lines.length).append("\n").toString();
    }

    /** build() writes these instructions, answers how many they are, and they are right for all inputs. */
    static void built(ConstantDivider x, int kind, int d, String... lines) {
        String call = "build(" + kind + ", " + d + ") with " + x.width() + " bits";
        Check.due(call, x.build(kind, d), lines.length);
        Check.due(call + ": instructions()", x.instructions(), lines.length);
        Check.due(call + ": result()", x.result(), lines.length);
        Check.due(call + ": listing", Check.listing(x), listing(lines));
        Check.due(call + ": wrong()", x.wrong(), 0);
    }
}
