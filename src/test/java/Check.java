import java.util.ArrayList;
import java.util.List;

/** Counts and prints what is not as due; shared by all tests. */
final class Check {
    interface Call {
        void make();
    }

    static final String ARGUMENT = "IllegalArgumentException";
    static final String STATE = "IllegalStateException";
    static final String INDEX = "IndexOutOfBoundsException";

    /** The longest has 40 lines of 25 characters and a last one of 11. */
    private static final int LONGEST_LISTING = 2000;

    private static int wrong = 0;
    private static int checked = 0;

    private Check() {
    }

    static void due(String call, long got, long want) {
        checked++;
        if (got != want) {
            report(call + " answered " + got + ", due is " + want);
        }
    }

    static void due(String call, boolean got, boolean want) {
        due(call, got ? 1 : 0, want ? 1 : 0);
    }

    static void due(String call, String got, String want) {
        checked++;
        if (!got.equals(want)) {
            report(call + " answered [" + got + "], due is [" + want + "]");
        }
    }

    static void report(String what) {
        wrong++;
        if (wrong <= 50) {
            System.out.println(what);
        }
    }

    /** The exact class counts: a subclass that the Java machine throws is not the document's exception. */
    static String thrownBy(Call call) {
        try {
            call.make();
            return "nothing";
        } catch (RuntimeException e) {
            return e.getClass().getSimpleName();
        }
    }

    /** The call throws that exception, and what can be seen of the object is the same before and after. */
    static void refused(ConstantDivider x, String text, String exception, Call call) {
        String before = seen(x);
        due(text + " throws", thrownBy(call), exception);
        due(text + " changes nothing", seen(x), before);
    }

    /** All that calls without an effect tell of an object; the costs by setting and resetting them. */
    static String seen(ConstantDivider x) {
        List<String> parts = new ArrayList<>();
        parts.add("w" + x.width());
        for (int which = 0; which < 3; which++) {
            int cost = x.setCost(which, 1);
            x.setCost(which, cost);
            parts.add("c" + cost);
        }
        parts.add(listing(x));
        parts.add("cost " + x.cost() + " depth " + x.depth() + " result " + x.result() + " of " + x.instructions());
        parts.add(task(x));
        return String.join(";", parts);
    }

    static String task(ConstantDivider x) {
        StringBuilder text = new StringBuilder();
        try {
            for (int input = 0; input < 1 << x.width(); input += 1 + (1 << x.width()) / 16) {
                text.append(x.expected(input)).append(' ');
            }
        } catch (IllegalStateException e) {
            return "no task";
        }
        return text.toString();
    }

    /** Ends beyond the longest listing too, so that one without an end fails a test and does not hang it. */
    static String listing(ConstantDivider x) {
        StringBuilder text = new StringBuilder();
        int c = x.listingChar(0);
        for (int k = 1; c != -1 && k <= LONGEST_LISTING; k++) {
            text.append((char) c);
            c = x.listingChar(k);
        }
        return text.toString();
    }

    /** Ends the test: exit code 1 if something was wrong, or if nothing was looked at. */
    static void end() {
        System.out.println(checked + " answers looked at, " + wrong + " wrong");
        if (wrong > 0 || checked == 0) {
            System.exit(1);
        }
    }
}
