import java.math.BigInteger;
import java.util.ArrayList;
import java.util.Arrays;
import java.util.List;

/**
 * The document once more, written as plainly as it can be and apart from the class: by search, with
 * big integers and texts. It is slow; tests hold the class against it. Calls that the document
 * refuses throw Refused with the exception's name.
 */
final class PlainModel {
    static final class Refused extends RuntimeException {
        private static final long serialVersionUID = 1L;

        Refused(String exception) {
            super(exception);
        }
    }

    private static final String[] NAMES = {
        "shl", "shr", "sar", "add", "sub", "mul", "mulhu", "mulhs", "and", "xor", "ror", "leu"};

    /** An operand is a text: "v3" or "17". */
    record Step(String name, String a, String b) {
    }

    record State(int width, List<Step> steps, int result, int kind, int d) {
    }

    private State state = new State(8, List.of(), 0, -1, 0);
    private final List<State> past = new ArrayList<>();
    private final int[] costs = {3, 5, 1};
    private List<Step> out;

    private static void refuse(boolean refused, String exception) {
        if (refused) {
            throw new Refused(exception);
        }
    }

    private void edit(State next) {
        past.add(state);
        if (past.size() > 8) {
            past.remove(0);
        }
        state = next;
    }

    private static boolean within(long n, long least, long greatest) {
        return least <= n && n <= greatest;
    }

    private long power(int k) {
        return BigInteger.TWO.pow(k).longValueExact();
    }

    private int size() {
        return (int) power(state.width);
    }

    // ---- settings

    int setWidth(int width) {
        refuse(!within(width, 4, 16), Check.ARGUMENT);
        int previous = state.width;
        edit(new State(width, List.of(), 0, -1, 0));
        return previous;
    }

    int width() {
        return state.width;
    }

    int setCost(int which, int cost) {
        refuse(!within(which, 0, 2), Check.INDEX);
        refuse(!within(cost, 1, 20), Check.ARGUMENT);
        int previous = costs[which];
        costs[which] = cost;
        return previous;
    }

    // ---- constants

    private static boolean isPower(int d) {
        for (long p = 1; p <= d; p *= 2) {
            if (p == d) {
                return true;
            }
        }
        return false;
    }

    private static int log(int d) {
        int k = 0;
        while (BigInteger.TWO.pow(k).intValueExact() < d) {
            k++;
        }
        return k;
    }

    private static BigInteger ceil(BigInteger a, BigInteger b) {
        BigInteger[] parts = a.divideAndRemainder(b);
        return parts[1].signum() == 0 ? parts[0] : parts[0].add(BigInteger.ONE);
    }

    private BigInteger scaled(int s, int d) {
        return ceil(BigInteger.TWO.pow(state.width + s), BigInteger.valueOf(d));
    }

    private int leastS(int d, int more) {
        int s = 0;
        while (scaled(s, d).multiply(BigInteger.valueOf(d)).subtract(BigInteger.TWO.pow(state.width + s))
                .compareTo(BigInteger.TWO.pow(s + more)) > 0) {
            s++;
        }
        return s;
    }

    int multiplier(int d) {
        refuse(!within(d, 1, size() - 1), Check.ARGUMENT);
        return isPower(d) ? 0 : scaled(leastS(d, 0), d).intValueExact();
    }

    int shift(int d) {
        refuse(!within(d, 1, size() - 1), Check.ARGUMENT);
        return isPower(d) ? log(d) : leastS(d, 0);
    }

    int signedMultiplier(int d) {
        refuse(!within(d, 1, size() / 2 - 1), Check.ARGUMENT);
        return isPower(d) ? 0 : scaled(leastS(d, 1), d).intValueExact();
    }

    int inverse(int e) {
        refuse(!within(e, 1, size() - 1) || e % 2 == 0, Check.ARGUMENT);
        return BigInteger.valueOf(e).modInverse(BigInteger.valueOf(size())).intValueExact();
    }

    /** The digits of the non-adjacent form, from the smallest power on, as many as the width has bits. */
    private int[] form(int c) {
        int[] digits = new int[state.width];
        int rest = c;
        for (int p = 0; p < digits.length; p++) {
            if (rest % 2 != 0) {
                digits[p] = rest % 4 == 1 ? 1 : -1;
                rest -= digits[p];
            }
            rest /= 2;
        }
        return digits;
    }

    int digits(int c) {
        refuse(!within(c, 0, size() - 1), Check.ARGUMENT);
        return (int) Arrays.stream(form(c)).filter(digit -> digit != 0).count();
    }

    // ---- programs

    private boolean isTask(int kind, int d) {
        int n = size();
        return switch (kind) {
            case 0, 1, 5 -> within(d, 1, n - 1);
            case 2, 3 -> d != 0 && within(d, -n / 2, n / 2 - 1);
            case 4 -> within(d, 1, n / 2 - 1);
            case 6 -> within(d, 2, n - 1);
            case 7 -> within(d, 0, n - 1);
            default -> false;
        };
    }

    private String put(String name, String a, String b) {
        if (List.of("shl", "shr", "sar", "ror").contains(name) && b.equals("0")) {
            return a;
        }
        out.add(new Step(name, a, b));
        return "v" + out.size();
    }

    private String put(String name, String a, long b) {
        return put(name, a, Long.toString(b));
    }

    private String times(String y, int c) {
        if (c == 1) {
            return y;
        }
        if (c == 0) {
            return put("and", y, 0);
        }
        List<Step> kept = out;
        out = new ArrayList<>(kept);
        String r = timesByDigits(y, c);
        int spent = (out.size() - kept.size()) * costs[2];
        if (spent <= costs[0]) {
            return r;
        }
        out = kept;
        return put("mul", y, c);
    }

    private String timesByDigits(String y, int c) {
        String r = null;
        int[] form = form(c);
        for (int p = 0; p < form.length; p++) {
            if (form[p] != 0) {
                String t = put("shl", y, p);
                if (r == null) {
                    r = form[p] == 1 ? t : put("sub", "0", t);
                } else {
                    r = put(form[p] == 1 ? "add" : "sub", r, t);
                }
            }
        }
        return r;
    }

    private String unsigned(String y, int d) {
        int w = state.width;
        if (isPower(d)) {
            return put("shr", y, log(d));
        }
        int s = leastS(d, 0);
        int m = scaled(s, d).intValueExact();
        if (m < size()) {
            return put("shr", put("mulhu", y, m), s);
        }
        if (d % 2 == 0) {
            int k = 0;
            int e = d;
            while (e % 2 == 0) {
                e /= 2;
                k++;
            }
            int u = leastS(e, k);
            String low = put("shr", y, k);
            return put("shr", put("mulhu", low, scaled(u, e).intValueExact()), u);
        }
        String t = put("mulhu", y, m - (1 << w));
        String half = put("shr", put("sub", y, t), 1);
        return put("shr", put("add", half, t), s - 1);
    }

    private String signed(int d) {
        int w = state.width;
        int a = Math.abs(d);
        String q;
        if (a == 1) {
            q = "v0";
        } else if (isPower(a)) {
            int k = log(a);
            String t = put("shr", put("sar", "v0", k - 1), w - k);
            q = put("sar", put("add", "v0", t), k);
        } else {
            int s = leastS(a, 1);
            int m = scaled(s, a).intValueExact();
            String t = put("mulhs", "v0", m);
            if (m >= size() / 2) {
                t = put("add", t, "v0");
            }
            t = put("sar", t, s);
            String sign = put("shr", "v0", w - 1);
            q = put("add", t, sign);
        }
        return d > 0 ? q : put("sub", "0", q);
    }

    private String write(int kind, int d) {
        int w = state.width;
        int k = 0;
        int e = d;
        while (e != 0 && e % 2 == 0) {
            e /= 2;
            k++;
        }
        switch (kind) {
            case 0:
                return unsigned("v0", d);
            case 1:
                return isPower(d) ? put("and", "v0", d - 1) : put("sub", "v0", times(unsigned("v0", d), d));
            case 2:
                return signed(d);
            case 3:
                return put("sub", "v0", times(signed(d), Math.floorMod(d, size())));
            case 4:
                if (isPower(d)) {
                    return put("sar", "v0", log(d));
                }
                String t = put("sar", "v0", w - 1);
                return put("xor", unsigned(put("xor", "v0", t), d), t);
            case 5:
                return times(put("shr", "v0", k), inverse(e));
            case 6:
                return put("leu", put("ror", times("v0", inverse(e)), k), (size() - 1) / d);
            default:
                return times("v0", d);
        }
    }

    private static int numberOf(String value) {
        return Integer.parseInt(value.startsWith("v") ? value.substring(1) : value);
    }

    int build(int kind, int d) {
        refuse(!isTask(kind, d), Check.ARGUMENT);
        out = new ArrayList<>();
        String r = write(kind, d);
        edit(new State(state.width, List.copyOf(out), numberOf(r), kind, d));
        return state.steps.size();
    }

    int setTask(int kind, int d) {
        refuse(!isTask(kind, d), Check.ARGUMENT);
        int previous = state.kind;
        edit(new State(state.width, state.steps, state.result, kind, d));
        return previous;
    }

    private boolean isOperand(boolean constant, int n) {
        return within(n, 0, constant ? size() - 1 : state.steps.size());
    }

    int append(int op, boolean isConstantA, int a, boolean isConstantB, int b) {
        refuse(!within(op, 0, 11), Check.ARGUMENT);
        refuse(!isOperand(isConstantA, a) || !isOperand(isConstantB, b), Check.ARGUMENT);
        boolean shift = op <= 2 || op == 10;
        refuse(shift && !(isConstantB && within(b, 0, state.width - 1)), Check.ARGUMENT);
        refuse(state.steps.size() == 40, Check.STATE);
        List<Step> steps = new ArrayList<>(state.steps);
        steps.add(new Step(NAMES[op], (isConstantA ? "" : "v") + a, (isConstantB ? "" : "v") + b));
        edit(new State(state.width, List.copyOf(steps), steps.size(), state.kind, state.d));
        return steps.size();
    }

    int setResult(int value) {
        refuse(!within(value, 0, state.steps.size()), Check.INDEX);
        int previous = state.result;
        edit(new State(state.width, state.steps, value, state.kind, state.d));
        return previous;
    }

    int drop() {
        refuse(state.steps.isEmpty(), Check.STATE);
        int n = state.steps.size();
        List<Step> steps = List.copyOf(state.steps.subList(0, n - 1));
        edit(new State(state.width, steps, state.result == n ? n - 1 : state.result, state.kind, state.d));
        return n - 1;
    }

    /** Replaces a value by another one in all steps from one on. */
    private static void replace(Step[] steps, int from, String old, String by) {
        for (int i = from; i < steps.length; i++) {
            if (steps[i] != null) {
                Step s = steps[i];
                steps[i] = new Step(s.name, s.a.equals(old) ? by : s.a, s.b.equals(old) ? by : s.b);
            }
        }
    }

    int tidy() {
        Step[] steps = state.steps.toArray(new Step[0]);
        String result = "v" + state.result;
        for (int i = 0; i < steps.length; i++) {
            for (int j = 0; j < i; j++) {
                if (steps[i] != null && steps[i].equals(steps[j])) {
                    String old = "v" + (i + 1);
                    String by = "v" + (j + 1);
                    steps[i] = null;
                    replace(steps, i + 1, old, by);
                    result = result.equals(old) ? by : result;
                }
            }
        }
        boolean again = true;
        while (again) {
            again = false;
            for (int i = 0; i < steps.length; i++) {
                if (steps[i] != null && !isUsed(steps, "v" + (i + 1), result)) {
                    steps[i] = null;
                    again = true;
                }
            }
        }
        return renumber(steps, result);
    }

    private static boolean isUsed(Step[] steps, String value, String result) {
        boolean used = value.equals(result);
        for (Step s : steps) {
            used |= s != null && (s.a.equals(value) || s.b.equals(value));
        }
        return used;
    }

    private int renumber(Step[] steps, String result) {
        List<Step> kept = new ArrayList<>();
        String last = result;
        for (int i = 0; i < steps.length; i++) {
            if (steps[i] != null) {
                kept.add(steps[i]);
                String old = "v" + (i + 1);
                String by = "v" + kept.size();
                // A new number is never greater than the old one, so no later value bears it yet.
                replace(steps, i + 1, old, by);
                last = result.equals(old) ? by : last;
            }
        }
        int removed = steps.length - kept.size();
        edit(new State(state.width, List.copyOf(kept), numberOf(last), state.kind, state.d));
        return removed;
    }

    int undo() {
        refuse(past.isEmpty(), Check.STATE);
        state = past.remove(past.size() - 1);
        return past.size();
    }

    int instructions() {
        return state.steps.size();
    }

    int operation(int i) {
        refuse(!within(i, 0, state.steps.size() - 1), Check.INDEX);
        return Arrays.asList(NAMES).indexOf(state.steps.get(i).name);
    }

    private String side(int i, int side) {
        refuse(!within(i, 0, state.steps.size() - 1) || !within(side, 0, 1), Check.INDEX);
        return side == 0 ? state.steps.get(i).a : state.steps.get(i).b;
    }

    int operand(int i, int side) {
        return numberOf(side(i, side));
    }

    boolean isConstant(int i, int side) {
        return !side(i, side).startsWith("v");
    }

    int result() {
        return state.result;
    }

    int cost() {
        int sum = 0;
        for (Step s : state.steps) {
            sum += s.name.equals("mul") ? costs[0] : s.name.startsWith("mul") ? costs[1] : costs[2];
        }
        return sum;
    }

    private int depthOf(String value) {
        if (!value.startsWith("v") || value.equals("v0")) {
            return 0;
        }
        Step s = state.steps.get(numberOf(value) - 1);
        return 1 + Math.max(depthOf(s.a), depthOf(s.b));
    }

    /** Only for programs in which few values are used twice: each use is followed anew. */
    int depth() {
        return depthOf("v" + state.result);
    }

    String listing() {
        StringBuilder text = new StringBuilder();
        for (int i = 0; i < state.steps.size(); i++) {
            Step s = state.steps.get(i);
            text.append("v" + (i + 1) + " = " + s.name + " " + s.a + ", " + s.b + "\n");
        }
        return text + "return v" + state.result + "\n";
    }

    int listingChar(int k) {
        refuse(k < 0, Check.INDEX);
        return k < listing().length() ? listing().charAt(k) : -1;
    }

    // ---- running and checking

    private BigInteger signedMeaning(BigInteger v) {
        BigInteger n = BigInteger.TWO.pow(state.width);
        return v.add(v).compareTo(n) < 0 ? v : v.subtract(n);
    }

    private static BigInteger floor(BigInteger a, BigInteger b) {
        BigInteger[] parts = a.divideAndRemainder(b);
        return parts[1].signum() != 0 && a.signum() != b.signum() ? parts[0].subtract(BigInteger.ONE) : parts[0];
    }

    private BigInteger apply(String name, BigInteger a, BigInteger b) {
        BigInteger n = BigInteger.TWO.pow(state.width);
        BigInteger p = name.matches("shl|shr|sar|ror") ? BigInteger.TWO.pow(b.intValueExact()) : BigInteger.ONE;
        return switch (name) {
            case "shl" -> a.multiply(p).mod(n);
            case "shr" -> floor(a, p);
            case "sar" -> floor(signedMeaning(a), p).mod(n);
            case "ror" -> floor(a, p).add(a.mod(p).multiply(n.divide(p)));
            case "add" -> a.add(b).mod(n);
            case "sub" -> a.subtract(b).mod(n);
            case "mul" -> a.multiply(b).mod(n);
            case "mulhu" -> floor(a.multiply(b), n);
            case "mulhs" -> floor(signedMeaning(a).multiply(signedMeaning(b)), n).mod(n);
            case "and" -> a.and(b);
            case "xor" -> a.xor(b);
            default -> a.compareTo(b) <= 0 ? BigInteger.ONE : BigInteger.ZERO;
        };
    }

    private int compute(int x, int value) {
        List<BigInteger> values = new ArrayList<>();
        values.add(BigInteger.valueOf(x));
        for (Step s : state.steps) {
            BigInteger a = s.a.startsWith("v") ? values.get(numberOf(s.a)) : new BigInteger(s.a);
            BigInteger b = s.b.startsWith("v") ? values.get(numberOf(s.b)) : new BigInteger(s.b);
            values.add(apply(s.name, a, b));
        }
        return values.get(value).intValueExact();
    }

    int run(int x) {
        refuse(!within(x, 0, size() - 1), Check.ARGUMENT);
        return compute(x, state.result);
    }

    int valueOf(int x, int value) {
        refuse(!within(x, 0, size() - 1), Check.ARGUMENT);
        refuse(!within(value, 0, state.steps.size()), Check.INDEX);
        return compute(x, value);
    }

    int expected(int x) {
        refuse(!within(x, 0, size() - 1), Check.ARGUMENT);
        refuse(state.kind == -1, Check.STATE);
        BigInteger n = BigInteger.TWO.pow(state.width);
        BigInteger u = BigInteger.valueOf(x);
        BigInteger v = signedMeaning(u);
        BigInteger d = BigInteger.valueOf(state.d);
        return switch (state.kind) {
            case 0 -> u.divide(d).intValueExact();
            case 1 -> u.mod(d).intValueExact();
            case 2 -> v.divide(d).mod(n).intValueExact();
            case 3 -> v.subtract(d.multiply(v.divide(d))).mod(n).intValueExact();
            case 4 -> floor(v, d).mod(n).intValueExact();
            case 5 -> u.mod(d).signum() == 0 ? u.divide(d).intValueExact() : -1;
            case 6 -> u.mod(d).signum() == 0 ? 1 : 0;
            default -> u.multiply(d).mod(n).intValueExact();
        };
    }

    private boolean isWrong(int x) {
        int due = expected(x);
        return due != -1 && due != run(x);
    }

    int firstWrong(int from) {
        refuse(!within(from, 0, size() - 1), Check.ARGUMENT);
        refuse(state.kind == -1, Check.STATE);
        for (int x = from; x < size(); x++) {
            if (isWrong(x)) {
                return x;
            }
        }
        return -1;
    }

    int wrong() {
        refuse(state.kind == -1, Check.STATE);
        int count = 0;
        for (int x = 0; x < size(); x++) {
            count += isWrong(x) ? 1 : 0;
        }
        return count;
    }

    // ---- reach, reciprocals

    int reach(int m, int k, int d) {
        refuse(!within(m, 0, 1000000) || !within(k, 0, 40) || !within(d, 1, 65535), Check.ARGUMENT);
        for (long n = 0; n <= 1000000; n++) {
            if (n * m / power(k) != n / d) {
                return (int) n;
            }
        }
        return -1;
    }

    int floatReciprocal(int d) {
        refuse(!within(d, 1, 65535), Check.ARGUMENT);
        return Float.floatToIntBits(1.0f / d);
    }

    long doubleReciprocal(int d) {
        refuse(!within(d, 1, 65535), Check.ARGUMENT);
        return Double.doubleToLongBits(1.0 / d);
    }

    int firstFloatError(int d) {
        refuse(!within(d, 1, 65535), Check.ARGUMENT);
        for (int n = 0; n <= 200000; n++) {
            if ((int) (n * (1.0f / d)) != n / d) {
                return n;
            }
        }
        return -1;
    }

    int firstDoubleError(int d) {
        refuse(!within(d, 1, 65535), Check.ARGUMENT);
        for (int n = 0; n <= 200000; n++) {
            if ((int) (n * (1.0 / d)) != n / d) {
                return n;
            }
        }
        return -1;
    }

    int leastRaise(int d) {
        refuse(!within(d, 1, 65535), Check.ARGUMENT);
        for (int j = 0; j <= 20; j++) {
            float r = (1.0f / d) * (1.0f + j / 8388608.0f);
            boolean right = true;
            for (int n = 0; n < size() && right; n++) {
                right = (int) (n * r) == n / d;
            }
            if (right) {
                return j;
            }
        }
        return -1;
    }
}
