import java.lang.management.ManagementFactory;

/** All calls of a run live in one room: what a StackRun needs it makes in its constructor. */
public final class RoomTest {
    private static final int CALLS = 512;
    private static final int ROUNDS = 27;
    // A field or an element takes four bytes, all but a few; the room has place for 7.3 million.
    private static final long ROOM = 4 * 7_300_000L;
    // Java itself may take a little while it warms up; one object in every call would take far more.
    private static final long SLACK = 4 * CALLS;

    public static void main(String[] args) {
        com.sun.management.ThreadMXBean meter = (com.sun.management.ThreadMXBean) ManagementFactory.getThreadMXBean();
        useAll(busy());
        StackRun x = busy();
        long before = meter.getCurrentThreadAllocatedBytes();
        useAll(x);
        long used = meter.getCurrentThreadAllocatedBytes() - before;
        Check.yes("calls took " + used + " bytes", used < SLACK);
        before = meter.getCurrentThreadAllocatedBytes();
        for (int i = 0; i < CALLS; i++) {
            Check.same("a new object", new StackRun().look(8), 0);
        }
        used = meter.getCurrentThreadAllocatedBytes() - before;
        Check.yes("new objects took " + used + " bytes", used < ROOM);
        Check.finish();
    }

    /** A program that makes rows, throws, calls and calls outside for ever. */
    private static StackRun busy() {
        StackRun x = Op.program(Op.PUSH, 3, Op.NEW, 0, Op.POP, 0, Op.HOST, 0, Op.CALL, 1, Op.JUMP, 0, Op.POP, 0,
                Op.JUMP, 3);
        x.handler(0, 0, 5, 6);
        Op.function(x, 1, 1, 0, Op.LOAD, 0, Op.THROW, 0);
        return x;
    }

    private static void useAll(StackRun x) {
        int sum = 0;
        for (int i = 0; i < ROUNDS; i++) {
            x.begin();
            sum += x.go(5000) + x.value(0, true, 0) + x.kind(0, false, 0) + x.row(i, 0) + x.trace(i, 0);
            x.clear();
            sum += x.function(0, 2, 1);
            for (int f = 0; f < 5; f++) {
                sum += x.add(0, f == 0 ? Op.JUMP : Op.POP, 0);
            }
            sum += x.handler(0, 0, 9, 1) && x.only(0, i) && x.change(0, 1, Op.DUP, 0) ? 1 : 0;
            sum += x.answer(i) + x.look(9);
        }
        Check.yes("the calls did something", sum > 0);
    }
}
