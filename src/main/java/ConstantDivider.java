/**
 * A code generator for division by constants: it writes, runs, checks, edits and lists short
 * programs of multiplications, shifts and additions that divide by a fixed divisor.
 */
public final class ConstantDivider {
    private static final int SHL = 0;
    private static final int SHR = 1;
    private static final int SAR = 2;
    private static final int ADD = 3;
    private static final int SUB = 4;
    private static final int MUL = 5;
    private static final int MULHU = 6;
    private static final int MULHS = 7;
    private static final int AND = 8;
    private static final int XOR = 9;
    private static final int ROR = 10;
    private static final int LEU = 11;

    private static final int UNSIGNED_QUOTIENT = 0;
    private static final int UNSIGNED_REMAINDER = 1;
    private static final int SIGNED_QUOTIENT = 2;
    private static final int SIGNED_REMAINDER = 3;
    private static final int FLOOR_QUOTIENT = 4;
    private static final int EXACT_QUOTIENT = 5;
    private static final int DIVISIBILITY = 6;
    private static final int PRODUCT = 7;
    private static final int NO_TASK = -1;

    private static final int COST_OF_MUL = 0;
    private static final int COST_OF_HIGH_MUL = 1;
    private static final int COST_OF_OTHERS = 2;
    private static final int GREATEST_COST = 20;

    private static final int LEAST_WIDTH = 4;
    private static final int GREATEST_WIDTH = 16;
    private static final int FIRST_WIDTH = 8;
    private static final int MOST_INSTRUCTIONS = 40;
    private static final int MOST_STATES = 8;

    private static final int NONE = -1;
    private static final int ANYTHING = -1;

    private static final int GREATEST_FACTOR = 1000000;
    private static final int GREATEST_FACTOR_SHIFT = 40;
    private static final int GREATEST_DIVISOR = 65535;
    private static final int LAST_REACHED = 1000000;
    private static final int LAST_RECIPROCAL_INPUT = 200000;
    private static final int GREATEST_RAISE = 20;

    private final Generator generator;
    private final Program program;
    private final int[] costs;
    private final History history;
    private final Machine machine;
    private final Tidier tidier;
    private final Listing listing;

    public ConstantDivider() {
        generator = new Generator();
        program = generator.program;
        costs = generator.costs;
        history = new History();
        machine = new Machine();
        tidier = new Tidier();
        listing = new Listing();
    }

    // ---- settings

    public int setWidth(int width) throws IllegalArgumentException {
        if (width < LEAST_WIDTH || width > GREATEST_WIDTH) {
            throw new IllegalArgumentException("width is not from 4 to 16");
        }
        int previous = program.width;
        history.remember(program);
        program.width = width;
        program.clear();
        program.taskKind = NO_TASK;
        program.taskDivisor = 0;
        return previous;
    }

    public int width() {
        return program.width;
    }

    public int setCost(int which, int cost) throws IndexOutOfBoundsException, IllegalArgumentException {
        if (which < 0 || which >= costs.length) {
            throw new IndexOutOfBoundsException("which is not from 0 to 2");
        }
        if (cost < 1 || cost > GREATEST_COST) {
            throw new IllegalArgumentException("cost is not from 1 to 20");
        }
        int previous = costs[which];
        costs[which] = cost;
        return previous;
    }

    // ---- constants

    public int multiplier(int d) throws IllegalArgumentException {
        requireFromTo(d, 1, greatestValue());
        if (Numbers.isPowerOfTwo(d)) {
            return 0;
        }
        return Numbers.multiplierFor(program.width, d, Numbers.leastShift(program.width, d, 0));
    }

    public int shift(int d) throws IllegalArgumentException {
        requireFromTo(d, 1, greatestValue());
        if (Numbers.isPowerOfTwo(d)) {
            return Integer.numberOfTrailingZeros(d);
        }
        return Numbers.leastShift(program.width, d, 0);
    }

    public int signedMultiplier(int d) throws IllegalArgumentException {
        requireFromTo(d, 1, greatestValue() >> 1);
        if (Numbers.isPowerOfTwo(d)) {
            return 0;
        }
        return Numbers.multiplierFor(program.width, d, Numbers.leastShift(program.width, d, 1));
    }

    public int inverse(int e) throws IllegalArgumentException {
        requireFromTo(e, 1, greatestValue());
        if ((e & 1) == 0) {
            throw new IllegalArgumentException("an even number has no inverse");
        }
        return Numbers.inverseOf(e, program.width);
    }

    public int digits(int c) throws IllegalArgumentException {
        requireFromTo(c, 0, greatestValue());
        return Numbers.countDigits(c, program.width);
    }

    // ---- programs

    public int build(int kind, int d) throws IllegalArgumentException {
        requireTask(kind, d);
        history.remember(program);
        program.clear();
        program.taskKind = kind;
        program.taskDivisor = d;
        program.result = Program.numberOf(generator.writeKind(kind, d));
        return program.length;
    }

    public int setTask(int kind, int d) throws IllegalArgumentException {
        requireTask(kind, d);
        int previous = program.taskKind;
        history.remember(program);
        program.taskKind = kind;
        program.taskDivisor = d;
        return previous;
    }

    public int append(int op, boolean isConstantA, int a, boolean isConstantB, int b)
            throws IllegalArgumentException, IllegalStateException {
        if (op < SHL || op > LEU) {
            throw new IllegalArgumentException("there is no such operation");
        }
        if (!program.allowsOperand(isConstantA, a) || !program.allowsOperand(isConstantB, b)) {
            throw new IllegalArgumentException("an operand is no earlier value and no constant of the width");
        }
        if (Machine.shiftsBits(op) && (!isConstantB || b >= program.width)) {
            throw new IllegalArgumentException("the bits to shift by are no constant below the width");
        }
        if (program.length >= MOST_INSTRUCTIONS) {
            throw new IllegalStateException("the program has 40 instructions");
        }
        history.remember(program);
        int first = isConstantA ? a : Program.operandOf(a);
        int second = isConstantB ? b : Program.operandOf(b);
        program.result = Program.numberOf(program.write(op, first, second));
        return program.length;
    }

    public int setResult(int value) throws IndexOutOfBoundsException {
        requireValue(value);
        int previous = program.result;
        history.remember(program);
        program.result = value;
        return previous;
    }

    public int drop() throws IllegalStateException {
        if (program.length == 0) {
            throw new IllegalStateException("the program is empty");
        }
        history.remember(program);
        program.length--;
        program.result = Math.min(program.result, program.length);
        return program.length;
    }

    public int tidy() {
        int before = program.length;
        history.remember(program);
        tidier.mergeEqual(program);
        tidier.removeUnneeded(program);
        return before - program.length;
    }

    public int undo() throws IllegalStateException {
        if (history.kept == 0) {
            throw new IllegalStateException("no edit can be undone");
        }
        history.restore(program);
        return history.kept;
    }

    public int instructions() {
        return program.length;
    }

    public int operation(int i) throws IndexOutOfBoundsException {
        requireInstruction(i);
        return program.operations[i];
    }

    public int operand(int i, int side) throws IndexOutOfBoundsException {
        return Program.numberOf(operandAt(i, side));
    }

    public boolean isConstant(int i, int side) throws IndexOutOfBoundsException {
        return !Program.isValue(operandAt(i, side));
    }

    public int result() {
        return program.result;
    }

    public int cost() {
        int sum = 0;
        for (int i = 0; i < program.length; i++) {
            sum += costs[Machine.costClass(program.operations[i])];
        }
        return sum;
    }

    public int depth() {
        return machine.depthOf(program);
    }

    public int listingChar(int k) throws IndexOutOfBoundsException {
        if (k < 0) {
            throw new IndexOutOfBoundsException("the index is negative");
        }
        return listing.charAt(program, k);
    }

    // ---- running and checking

    public int run(int x) throws IllegalArgumentException {
        requireFromTo(x, 0, greatestValue());
        return machine.compute(program, x, program.result);
    }

    public int valueOf(int x, int value) throws IllegalArgumentException, IndexOutOfBoundsException {
        requireFromTo(x, 0, greatestValue());
        requireValue(value);
        return machine.compute(program, x, value);
    }

    public int expected(int x) throws IllegalArgumentException, IllegalStateException {
        requireFromTo(x, 0, greatestValue());
        requireSomeTask();
        return meaning(x);
    }

    public int firstWrong(int from) throws IllegalArgumentException, IllegalStateException {
        requireFromTo(from, 0, greatestValue());
        requireSomeTask();
        int last = greatestValue();
        for (int x = from; x <= last; x++) {
            if (!isRight(x)) {
                return x;
            }
        }
        return NONE;
    }

    public int wrong() throws IllegalStateException {
        requireSomeTask();
        int last = greatestValue();
        int count = 0;
        for (int x = 0; x <= last; x++) {
            if (!isRight(x)) {
                count++;
            }
        }
        return count;
    }

    // ---- reach, reciprocals

    public int reach(int m, int k, int d) throws IllegalArgumentException {
        requireFromTo(m, 0, GREATEST_FACTOR);
        requireFromTo(k, 0, GREATEST_FACTOR_SHIFT);
        requireFromTo(d, 1, GREATEST_DIVISOR);
        long first = Numbers.firstUnreached(m, 1L << k, d);
        return first <= LAST_REACHED ? (int) first : NONE;
    }

    public int floatReciprocal(int d) throws IllegalArgumentException {
        requireFromTo(d, 1, GREATEST_DIVISOR);
        return (int) Reciprocals.bitsOf(1.0f / d, 127, 23);
    }

    public long doubleReciprocal(int d) throws IllegalArgumentException {
        requireFromTo(d, 1, GREATEST_DIVISOR);
        return Reciprocals.bitsOf(1.0 / d, 1023, 52);
    }

    public int firstFloatError(int d) throws IllegalArgumentException {
        requireFromTo(d, 1, GREATEST_DIVISOR);
        return Reciprocals.firstFloatMiss(1.0f / d, d, LAST_RECIPROCAL_INPUT);
    }

    public int firstDoubleError(int d) throws IllegalArgumentException {
        requireFromTo(d, 1, GREATEST_DIVISOR);
        return Reciprocals.firstDoubleMiss(1.0 / d, d, LAST_RECIPROCAL_INPUT);
    }

    public int leastRaise(int d) throws IllegalArgumentException {
        requireFromTo(d, 1, GREATEST_DIVISOR);
        for (int j = 0; j <= GREATEST_RAISE; j++) {
            float raised = (1.0f / d) * (1.0f + j / 8388608.0f);
            if (Reciprocals.firstFloatMiss(raised, d, greatestValue()) == NONE) {
                return j;
            }
        }
        return NONE;
    }

    // ---- what the calls above share

    private int greatestValue() {
        return (1 << program.width) - 1;
    }

    private static void requireFromTo(int number, int least, int greatest) {
        if (number < least || number > greatest) {
            throw new IllegalArgumentException("an argument is out of its range");
        }
    }

    private void requireTask(int kind, int d) {
        if (!allowsTask(kind, d)) {
            throw new IllegalArgumentException("there is no such kind, or the divisor does not fit it");
        }
    }

    private boolean allowsTask(int kind, int d) {
        int greatest = greatestValue();
        int greatestSigned = greatest >> 1;
        switch (kind) {
            case UNSIGNED_QUOTIENT:
            case UNSIGNED_REMAINDER:
            case EXACT_QUOTIENT:
                return d >= 1 && d <= greatest;
            case SIGNED_QUOTIENT:
            case SIGNED_REMAINDER:
                return d != 0 && d >= -1 - greatestSigned && d <= greatestSigned;
            case FLOOR_QUOTIENT:
                return d >= 1 && d <= greatestSigned;
            case DIVISIBILITY:
                return d >= 2 && d <= greatest;
            case PRODUCT:
                return d >= 0 && d <= greatest;
            default:
                return false;
        }
    }

    private void requireSomeTask() {
        if (program.taskKind == NO_TASK) {
            throw new IllegalStateException("there is no task");
        }
    }

    private void requireValue(int value) {
        if (value < 0 || value > program.length) {
            throw new IndexOutOfBoundsException("there is no such value");
        }
    }

    private void requireInstruction(int i) {
        if (i < 0 || i >= program.length) {
            throw new IndexOutOfBoundsException("there is no such instruction");
        }
    }

    private int operandAt(int i, int side) {
        requireInstruction(i);
        if (side != 0 && side != 1) {
            throw new IndexOutOfBoundsException("side is not 0 or 1");
        }
        return side == 0 ? program.firsts[i] : program.seconds[i];
    }

    private boolean isRight(int x) {
        int due = meaning(x);
        return due == ANYTHING || due == machine.compute(program, x, program.result);
    }

    private int meaning(int x) {
        int d = program.taskDivisor;
        if (d == 0) {
            // Only a product may have 0 here, and nothing below divides by it.
            return 0;
        }
        int mask = greatestValue();
        int signed = Numbers.signedMeaning(x, program.width);
        switch (program.taskKind) {
            case UNSIGNED_QUOTIENT:
                return x / d;
            case UNSIGNED_REMAINDER:
                return x % d;
            case SIGNED_QUOTIENT:
                return (signed / d) & mask;
            case SIGNED_REMAINDER:
                return (signed % d) & mask;
            case FLOOR_QUOTIENT:
                return Math.floorDiv(signed, d) & mask;
            case EXACT_QUOTIENT:
                return x % d == 0 ? x / d : ANYTHING;
            case DIVISIBILITY:
                return x % d == 0 ? 1 : 0;
            default:
                return (x * d) & mask;
        }
    }

    /** The state that an edit changes: the width, the instructions, the result and the task. */
    private static final class Program {
        int width;
        int length;
        int result;
        int taskKind;
        int taskDivisor;
        final int[] operations;
        // An operand is one number, so that equal operands are equal numbers:
        // a constant is itself, value j is -1 - j.
        final int[] firsts;
        final int[] seconds;

        Program() {
            width = FIRST_WIDTH;
            taskKind = NO_TASK;
            operations = new int[MOST_INSTRUCTIONS];
            firsts = new int[MOST_INSTRUCTIONS];
            seconds = new int[MOST_INSTRUCTIONS];
        }

        static int operandOf(int value) {
            return -1 - value;
        }

        static boolean isValue(int operand) {
            return operand < 0;
        }

        static int numberOf(int operand) {
            return isValue(operand) ? -1 - operand : operand;
        }

        boolean allowsOperand(boolean constant, int number) {
            return number >= 0 && (constant ? number < 1 << width : number <= length);
        }

        void clear() {
            length = 0;
            result = 0;
        }

        /** Returns the operand that stands for the new instruction's value. */
        int write(int operation, int first, int second) {
            if (length < MOST_INSTRUCTIONS) {
                operations[length] = operation;
                firsts[length] = first;
                seconds[length] = second;
                length++;
            }
            return -1 - length;
        }

        void copyFrom(Program other) {
            width = other.width;
            length = other.length;
            result = other.result;
            taskKind = other.taskKind;
            taskDivisor = other.taskDivisor;
            System.arraycopy(other.operations, 0, operations, 0, length);
            System.arraycopy(other.firsts, 0, firsts, 0, length);
            System.arraycopy(other.seconds, 0, seconds, 0, length);
        }
    }

    /** The latest states, in a ring, so that no edit makes a new object. */
    private static final class History {
        final Program[] states;
        int next;
        int kept;

        History() {
            states = new Program[MOST_STATES];
            for (int i = 0; i < MOST_STATES; i++) {
                states[i] = new Program();
            }
        }

        void remember(Program program) {
            states[next].copyFrom(program);
            next = (next + 1) % MOST_STATES;
            kept = Math.min(kept + 1, MOST_STATES);
        }

        void restore(Program program) {
            next = (next + MOST_STATES - 1) % MOST_STATES;
            kept--;
            program.copyFrom(states[next]);
        }
    }

    /** Runs programs. */
    private static final class Machine {
        private final int[] values;
        private final int[] depths;

        Machine() {
            values = new int[MOST_INSTRUCTIONS + 1];
            depths = new int[MOST_INSTRUCTIONS + 1];
        }

        static boolean shiftsBits(int operation) {
            return operation == SHL || operation == SHR || operation == SAR || operation == ROR;
        }

        static int costClass(int operation) {
            if (operation == MUL) {
                return COST_OF_MUL;
            }
            return operation == MULHU || operation == MULHS ? COST_OF_HIGH_MUL : COST_OF_OTHERS;
        }

        int compute(Program program, int x, int value) {
            values[0] = x;
            for (int i = 0; i < value; i++) {
                int a = inputOf(program.firsts[i]);
                int b = inputOf(program.seconds[i]);
                values[i + 1] = apply(program.operations[i], a, b, program.width);
            }
            return values[value];
        }

        private int inputOf(int operand) {
            return Program.isValue(operand) ? values[Program.numberOf(operand)] : operand;
        }

        private static int apply(int operation, int a, int b, int width) {
            int mask = (1 << width) - 1;
            switch (operation) {
                case SHL:
                    return (a << b) & mask;
                case SHR:
                    return a >> b;
                case SAR:
                    return (Numbers.signedMeaning(a, width) >> b) & mask;
                case ADD:
                    return (a + b) & mask;
                case SUB:
                    return (a - b) & mask;
                case MUL:
                    return (a * b) & mask;
                case MULHU:
                    return (int) ((long) a * b >> width);
                case MULHS:
                    return (Numbers.signedMeaning(a, width) * Numbers.signedMeaning(b, width) >> width) & mask;
                case AND:
                    return a & b;
                case XOR:
                    return a ^ b;
                case ROR:
                    return (a >> b) | (a << (width - b) & mask);
                default:
                    return a <= b ? 1 : 0;
            }
        }

        int depthOf(Program program) {
            depths[0] = 0;
            for (int i = 0; i < program.result; i++) {
                depths[i + 1] = 1 + Math.max(depthOfOperand(program.firsts[i]), depthOfOperand(program.seconds[i]));
            }
            return depths[program.result];
        }

        private int depthOfOperand(int operand) {
            return Program.isValue(operand) ? depths[Program.numberOf(operand)] : 0;
        }
    }

    /** Removes instructions that repeat earlier ones or that nothing needs. */
    private static final class Tidier {
        private final int[] newNumbers;
        private final boolean[] needed;

        Tidier() {
            newNumbers = new int[MOST_INSTRUCTIONS + 1];
            needed = new boolean[MOST_INSTRUCTIONS + 1];
        }

        void mergeEqual(Program program) {
            int kept = 0;
            for (int i = 0; i < program.length; i++) {
                int operation = program.operations[i];
                int first = renumbered(program.firsts[i]);
                int second = renumbered(program.seconds[i]);
                int same = findAmong(program, kept, operation, first, second);
                if (same == kept) {
                    program.operations[kept] = operation;
                    program.firsts[kept] = first;
                    program.seconds[kept] = second;
                    kept++;
                }
                newNumbers[i + 1] = same + 1;
            }
            program.length = kept;
            program.result = newNumbers[program.result];
        }

        /** Returns how many there are if none of them is the same. */
        private static int findAmong(Program program, int kept, int operation, int first, int second) {
            for (int j = 0; j < kept; j++) {
                if (program.operations[j] == operation && program.firsts[j] == first && program.seconds[j] == second) {
                    return j;
                }
            }
            return kept;
        }

        void removeUnneeded(Program program) {
            markNeeded(program);
            int kept = 0;
            for (int i = 0; i < program.length; i++) {
                if (needed[i + 1]) {
                    program.operations[kept] = program.operations[i];
                    program.firsts[kept] = renumbered(program.firsts[i]);
                    program.seconds[kept] = renumbered(program.seconds[i]);
                    kept++;
                    newNumbers[i + 1] = kept;
                }
            }
            program.length = kept;
            program.result = newNumbers[program.result];
        }

        private void markNeeded(Program program) {
            for (int value = 0; value <= program.length; value++) {
                needed[value] = value == program.result;
            }
            for (int i = program.length - 1; i >= 0; i--) {
                if (needed[i + 1]) {
                    markOperand(program.firsts[i]);
                    markOperand(program.seconds[i]);
                }
            }
        }

        private void markOperand(int operand) {
            if (Program.isValue(operand)) {
                needed[Program.numberOf(operand)] = true;
            }
        }

        private int renumbered(int operand) {
            return Program.isValue(operand) ? Program.operandOf(newNumbers[Program.numberOf(operand)]) : operand;
        }
    }

    /** Writes the listing past a window of one character, so that no text is made. */
    private static final class Listing {
        private int left;
        private int seen;

        int charAt(Program program, int k) {
            left = k;
            seen = NONE;
            for (int i = 0; i < program.length && seen == NONE; i++) {
                passInstruction(program, i);
            }
            passText("return v");
            passNumber(program.result);
            pass('\n');
            return seen;
        }

        private void passInstruction(Program program, int i) {
            pass('v');
            passNumber(i + 1);
            passText(" = ");
            passText(nameOf(program.operations[i]));
            pass(' ');
            passOperand(program.firsts[i]);
            passText(", ");
            passOperand(program.seconds[i]);
            pass('\n');
        }

        private void passOperand(int operand) {
            if (Program.isValue(operand)) {
                pass('v');
            }
            passNumber(Program.numberOf(operand));
        }

        private void passNumber(int number) {
            for (int unit = 10000; unit >= 1; unit /= 10) {
                if (number >= unit || unit == 1) {
                    pass((char) ('0' + number / unit % 10));
                }
            }
        }

        private void passText(String text) {
            for (int i = 0; i < text.length(); i++) {
                pass(text.charAt(i));
            }
        }

        private void pass(char c) {
            if (left == 0) {
                seen = c;
            }
            left--;
        }

        private static String nameOf(int operation) {
            switch (operation) {
                case SHL:
                    return "shl";
                case SHR:
                    return "shr";
                case SAR:
                    return "sar";
                case ADD:
                    return "add";
                case SUB:
                    return "sub";
                case MUL:
                    return "mul";
                case MULHU:
                    return "mulhu";
                case MULHS:
                    return "mulhs";
                case AND:
                    return "and";
                case XOR:
                    return "xor";
                case ROR:
                    return "ror";
                default:
                    return "leu";
            }
        }
    }

    /** Holds the program and writes the instructions of a kind into it; y and what is returned are operands. */
    private static final class Generator {
        final Program program;
        final int[] costs;
        private final int input;

        Generator() {
            program = new Program();
            costs = new int[] {3, 5, 1};
            input = Program.operandOf(0);
        }

        int writeKind(int kind, int d) {
            switch (kind) {
                case UNSIGNED_QUOTIENT:
                    return unsignedQuotient(input, d);
                case UNSIGNED_REMAINDER:
                    return unsignedRemainder(d);
                case SIGNED_QUOTIENT:
                    return signedQuotient(d);
                case SIGNED_REMAINDER:
                    return program.write(SUB, input, productBy(signedQuotient(d), d & mask()));
                case FLOOR_QUOTIENT:
                    return floorQuotient(d);
                case EXACT_QUOTIENT:
                    return exactQuotient(d);
                case DIVISIBILITY:
                    return divisibility(d);
                default:
                    return productBy(input, d);
            }
        }

        private int mask() {
            return (1 << program.width) - 1;
        }

        private int shifted(int operation, int y, int bits) {
            return bits == 0 ? y : program.write(operation, y, bits);
        }

        private int productBy(int y, int c) {
            if (c == 1) {
                return y;
            }
            if (c == 0) {
                return program.write(AND, y, 0);
            }
            if (costOfDigits(c) <= costs[COST_OF_MUL]) {
                return productByDigits(y, c);
            }
            return program.write(MUL, y, c);
        }

        private int costOfDigits(int c) {
            int lowest = Integer.numberOfTrailingZeros(c);
            int count = Numbers.countDigits(c, program.width);
            int shifts = lowest == 0 ? count - 1 : count;
            int negations = Numbers.digitAt(c, lowest) < 0 ? 1 : 0;
            return (shifts + negations + count - 1) * costs[COST_OF_OTHERS];
        }

        private int productByDigits(int y, int c) {
            int lowest = Integer.numberOfTrailingZeros(c);
            int sum = shifted(SHL, y, lowest);
            if (Numbers.digitAt(c, lowest) < 0) {
                sum = program.write(SUB, 0, sum);
            }
            for (int p = lowest + 1; p < program.width; p++) {
                int digit = Numbers.digitAt(c, p);
                if (digit != 0) {
                    int term = program.write(SHL, y, p);
                    sum = program.write(digit > 0 ? ADD : SUB, sum, term);
                }
            }
            return sum;
        }

        private int unsignedQuotient(int y, int d) {
            if (Numbers.isPowerOfTwo(d)) {
                return shifted(SHR, y, Integer.numberOfTrailingZeros(d));
            }
            int s = Numbers.leastShift(program.width, d, 0);
            int m = Numbers.multiplierFor(program.width, d, s);
            if (m <= mask()) {
                return shifted(SHR, program.write(MULHU, y, m), s);
            }
            if ((d & 1) == 0) {
                return evenQuotient(y, d);
            }
            int t = program.write(MULHU, y, m & mask());
            int half = program.write(SHR, program.write(SUB, y, t), 1);
            return shifted(SHR, program.write(ADD, half, t), s - 1);
        }

        private int evenQuotient(int y, int d) {
            int k = Integer.numberOfTrailingZeros(d);
            int e = d >> k;
            int u = Numbers.leastShift(program.width, e, k);
            int n = Numbers.multiplierFor(program.width, e, u);
            return shifted(SHR, program.write(MULHU, shifted(SHR, y, k), n), u);
        }

        private int unsignedRemainder(int d) {
            if (Numbers.isPowerOfTwo(d)) {
                return program.write(AND, input, d - 1);
            }
            return program.write(SUB, input, productBy(unsignedQuotient(input, d), d));
        }

        private int signedQuotient(int d) {
            int q = quotientTowardZero(Math.abs(d));
            return d > 0 ? q : program.write(SUB, 0, q);
        }

        private int quotientTowardZero(int a) {
            int width = program.width;
            if (a == 1) {
                return input;
            }
            if (Numbers.isPowerOfTwo(a)) {
                int k = Integer.numberOfTrailingZeros(a);
                int bias = shifted(SHR, shifted(SAR, input, k - 1), width - k);
                return shifted(SAR, program.write(ADD, input, bias), k);
            }
            int s = Numbers.leastShift(width, a, 1);
            int m = Numbers.multiplierFor(width, a, s);
            int t = program.write(MULHS, input, m);
            if (m >= 1 << (width - 1)) {
                t = program.write(ADD, t, input);
            }
            t = shifted(SAR, t, s);
            return program.write(ADD, t, program.write(SHR, input, width - 1));
        }

        private int floorQuotient(int d) {
            if (Numbers.isPowerOfTwo(d)) {
                return shifted(SAR, input, Integer.numberOfTrailingZeros(d));
            }
            int sign = program.write(SAR, input, program.width - 1);
            int y = program.write(XOR, input, sign);
            return program.write(XOR, unsignedQuotient(y, d), sign);
        }

        private int exactQuotient(int d) {
            int k = Integer.numberOfTrailingZeros(d);
            return productBy(shifted(SHR, input, k), Numbers.inverseOf(d >> k, program.width));
        }

        private int divisibility(int d) {
            if (d < 1) {
                // No task has it; a divisor is looked at before it divides.
                return input;
            }
            int k = Integer.numberOfTrailingZeros(d);
            int p = productBy(input, Numbers.inverseOf(d >> k, program.width));
            return program.write(LEU, shifted(ROR, p, k), mask() / d);
        }
    }

    /** Arithmetic that the document names. */
    private static final class Numbers {
        static int signedMeaning(int v, int width) {
            return v < 1 << (width - 1) ? v : v - (1 << width);
        }

        static boolean isPowerOfTwo(int d) {
            return d > 0 && (d & (d - 1)) == 0;
        }

        /** ceil(2^exponent / d); 0 for a divisor that no caller hands over. */
        static long ceilOfPower(int exponent, int d) {
            return d < 1 ? 0 : ((1L << exponent) - 1) / d + 1;
        }

        static int multiplierFor(int width, int d, int s) {
            return (int) ceilOfPower(width + s, d);
        }

        /** The least s whose multiplier exceeds 2^(width+s) / d by so little that its error is 2^(s+slack) at most. */
        static int leastShift(int width, int d, int slack) {
            for (int s = 0; s < GREATEST_WIDTH; s++) {
                long error = ceilOfPower(width + s, d) * d - (1L << (width + s));
                if (error <= 1L << (s + slack)) {
                    return s;
                }
            }
            // The error is below d, and d is below 2^16.
            return GREATEST_WIDTH;
        }

        static int inverseOf(int e, int width) {
            // e is its own inverse modulo 8, and each step doubles the bits that are right: 3, 6, 12, 24.
            int i = e;
            for (int step = 0; step < 3; step++) {
                i *= 2 - e * i;
            }
            return i & ((1 << width) - 1);
        }

        /** The digit at 2^p of the non-adjacent form of c. */
        static int digitAt(int c, int p) {
            // 3c - c = 2c, and taken bit by bit without borrows this difference is the form of 2c.
            return (3 * c >> (p + 1) & 1) - (c >> (p + 1) & 1);
        }

        static int countDigits(int c, int width) {
            int count = 0;
            for (int p = 0; p < width; p++) {
                if (digitAt(c, p) != 0) {
                    count++;
                }
            }
            return count;
        }

        /** The least n with floor(n * m / scale) different from floor(n / d); beyond LAST_REACHED if there is none. */
        static long firstUnreached(long m, long scale, long d) {
            long excess = d * m - scale;
            if (excess == 0) {
                return LAST_REACHED + 1L;
            }
            if (excess < 0) {
                // The quotient stays too small, and the first multiple of d shows it.
                return d;
            }
            // With n = q * d + r, floor(n * m / scale) is above q just if r * m >= scale - q * excess.
            // So the first q is the one for which r = d - 1 is enough, and r is the least one for that q.
            long q = ceilOf(scale - (d - 1) * m, excess);
            return q * d + ceilOf(scale - q * excess, m);
        }

        /** The least number from 0 on that is at least a / b; 0 for a divisor that no caller hands over. */
        private static long ceilOf(long a, long b) {
            return a <= 0 || b < 1 ? 0 : (a - 1) / b + 1;
        }
    }

    /** The reciprocal method with floats and doubles. */
    private static final class Reciprocals {
        /** The bits of a value above 2^-17 and up to 1 in the format with that bias and so many bits of fraction. */
        static long bitsOf(double value, int bias, int fractionBits) {
            double significand = value;
            int exponent = bias;
            for (int i = 0; i < 17 && significand < 1.0; i++) {
                significand *= 2.0;
                exponent--;
            }
            long one = 1L << fractionBits;
            return ((long) exponent << fractionBits) + (long) (significand * one) - one;
        }

        // Each r here is within 22 / 2^23 of 1 / d, relatively, with the rounding of the product counted in.
        // For n up to 200000 the product is then less than 1 / d away from n / d, so that only
        // multiples of d can get a wrong quotient.

        static int firstFloatMiss(float r, int d, int last) {
            for (int q = 0; q <= last; q++) {
                int n = q * d;
                if (n > last) {
                    break;
                }
                if ((int) (n * r) != q) {
                    return n;
                }
            }
            return NONE;
        }

        static int firstDoubleMiss(double r, int d, int last) {
            for (int q = 0; q <= last; q++) {
                int n = q * d;
                if (n > last) {
                    break;
                }
                if ((int) (n * r) != q) {
                    return n;
                }
            }
            return NONE;
        }
    }
}
