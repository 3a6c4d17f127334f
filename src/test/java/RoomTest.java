import java.lang.management.ManagementFactory;

/** All calls of one run live in one room: an object is small, and a call that throws nothing makes no object. */
public final class RoomTest {
    private static final int CALLS = 512;
    private static final long MOST_BYTES_OF_AN_OBJECT = 16 * 1024;
    // What the Java machine itself makes while it links and compiles; far below one object for each call.
    private static final long MOST_BYTES_OF_CALLS = 4 * 1024;

    public static void main(String[] args) {
        if (!(ManagementFactory.getThreadMXBean() instanceof com.sun.management.ThreadMXBean bean)) {
            System.out.println("this machine does not count bytes");
            return;
        }
        long id = Thread.currentThread().getId();
        all(new ConstantDivider());
        long before = bean.getThreadAllocatedBytes(id);
        ConstantDivider x = new ConstantDivider();
        long made = bean.getThreadAllocatedBytes(id);
        all(x);
        long used = bean.getThreadAllocatedBytes(id);
        System.out.println("an object: " + (made - before) + " bytes, its calls: " + (used - made) + " bytes");
        Check.due("an object is small", made - before <= MOST_BYTES_OF_AN_OBJECT, true);
        Check.due("calls make no objects", used - made <= MOST_BYTES_OF_CALLS, true);
        Check.end();
    }

    private static void all(ConstantDivider x) {
        for (int i = 0; i < CALLS; i++) {
            x.setWidth(4 + i % 13);
            x.setCost(i % 3, 1 + i % 20);
            x.build(i % 8, 2 + i % 6);
            for (int j = 0; j < 20; j++) {
                x.append(j % 12, false, j % (x.instructions() + 1), true, j % x.width());
            }
            x.setResult(1);
            x.drop();
            x.tidy();
            x.setTask(0, 7);
            x.listingChar(i);
            x.cost();
            x.depth();
            x.run(3);
            x.valueOf(3, 1);
            x.expected(3);
            x.firstWrong(0);
            x.wrong();
            x.undo();
            x.multiplier(7);
            x.shift(7);
            x.signedMultiplier(7);
            x.inverse(7);
            x.digits(7);
            x.reach(i, 10, 7);
            x.floatReciprocal(7);
            x.doubleReciprocal(7);
            x.firstFloatError(41);
            x.firstDoubleError(49);
            x.leastRaise(41);
            x.width();
            x.instructions();
            x.result();
            if (x.instructions() > 0) {
                x.operation(0);
                x.operand(0, 1);
                x.isConstant(0, 0);
            }
        }
    }
}
