import java.lang.management.ManagementFactory;

/** What each call leaves as it was, and the room; of calls that throw StateSentences tells. */
public final class StateTest {
    private static final long MINUS_12_5 = Double.doubleToRawLongBits(-12.5);

    public static void main(String[] args) {
        askingChangesNothing();
        makingLeavesTextAndResult();
        roundingLeavesTexts();
        theRoomStaysSmall();
        Due.end(StateTest.class);
    }

    private static void askingChangesNothing() {
        Due.Call[] calls = {
            x -> x.result(), x -> x.flags(), x -> x.out(0), x -> x.decimal(0), x -> x.digit(0), x -> x.next(0, 5, true),
            x -> x.steps(0, 5, 7), x -> x.compare(0, 5, 7), x -> x.order(0, 5, 7), x -> x.kind(0, 5),
            x -> x.reads(0, 5, 25, -324) ? 1 : 0, x -> x.holds(0, 5) ? 1 : 0, x -> x.holds(0, MINUS_12_5) ? 1 : 0, x -> x.type(-1, 0)
        };
        for (int i = 0; i < calls.length; i++) {
            FloatTexts x = StateSentences.filled();
            calls[i].on(x);
            StateSentences.isFilled("asking call " + i, x);
        }
        FloatTexts full = StateSentences.filled();
        full.clear();
        for (int i = 0; i < 200; i++) {
            full.type(0x3030303030303030L, 8);
        }
        Due.same("no room to type", full.type(0x30, 1), -1);
        Due.same("no room to pass", full.pass(), -1);
        Due.same("all is there still", full.clear(), 1600);
        Due.typeAll(full, "-1.5e-400");
        StateSentences.isFilled("no room", full);
        Due.typeAll(full, "-1.5e-400x");
        Due.same("a fault", full.read(0, 0), -10);
        Due.same("the result stays", full.result(), Long.MIN_VALUE | 1);
        Due.same("the flags stay", full.flags(), 5);
    }

    private static void makingLeavesTextAndResult() {
        Due.Call[] calls = {
            x -> x.shortest(0, 5, 0), x -> x.exact(0, 5, 0), x -> x.middle(0, 5, 0), x -> x.digits(0, 5, 3, 0, 0),
            x -> x.fixed(0, 5, 3, 3), x -> x.hex(0, 5), x -> x.shortest(0, -1, 0), x -> x.shortest(0, 0, 0)
        };
        for (int i = 0; i < calls.length; i++) {
            FloatTexts x = StateSentences.filled();
            calls[i].on(x);
            Due.same("making call " + i + ": result", x.result(), Long.MIN_VALUE | 1);
            Due.same("making call " + i + ": flags", x.flags(), 5);
            Due.same("making call " + i + ": TEXT", x.type(0, 0), 9);
            Due.same("making call " + i + ": TEXT is read", x.read(0, 2), 0);
            Due.same("making call " + i + ": and rounded", x.result(), Long.MIN_VALUE);
            calls[i].on(x);
            x.exact(0, MINUS_12_5, 1);
            x.read(0, 4);
            StateSentences.isFilled("after making call " + i, x);
        }
    }

    private static void roundingLeavesTexts() {
        Due.Call[] calls = {
            x -> x.nearest(0, 7, -320, 0), x -> x.power(0, 7, -1080, 0), x -> x.convert(0, 7, 1, 0), x -> x.convert(0, -1, 1, 0)
        };
        for (int i = 0; i < calls.length; i++) {
            FloatTexts x = StateSentences.filled();
            Due.same("rounding call " + i, calls[i].on(x), x.result());
            x.read(0, 4);
            StateSentences.isFilled("rounding call " + i, x);
        }
    }

    /** All calls of a run live in one room: an object is small, and its calls make no others. */
    private static void theRoomStaysSmall() {
        long before = allocated();
        FloatTexts[] objects = new FloatTexts[100];
        for (int i = 0; i < objects.length; i++) {
            objects[i] = new FloatTexts();
        }
        long object = (allocated() - before) / objects.length;
        Due.holds("an object has at most 16000 bytes, it has " + object, object <= 16000);
        dearCalls(objects[0]);
        before = allocated();
        dearCalls(objects[1]);
        long calls = allocated() - before;
        Due.holds("the calls make nothing, they made " + calls + " bytes", calls <= 1000);
    }

    private static void dearCalls(FloatTexts x) {
        for (int i = 0; i < 40; i++) {
            x.middle(0, 1 + i, 1);
            x.clear();
            x.pass();
            x.read(0, i % 5);
            x.holds(0, 1 + i);
            x.fixed(0, 0x7fefffffffffffffL - i, 1100, i % 5);
            x.digits(0, 1 + i, 800, i % 5, 1);
            x.nearest(0, Long.MIN_VALUE, -340, i % 5);
            x.hex(0, -1L >>> 12);
        }
    }

    private static long allocated() {
        com.sun.management.ThreadMXBean threads = (com.sun.management.ThreadMXBean) ManagementFactory.getThreadMXBean();
        return threads.getThreadAllocatedBytes(Thread.currentThread().getId());
    }
}
