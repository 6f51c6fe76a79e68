import java.lang.management.ManagementFactory;

/** What each call leaves as it was: a call that throws, a call that only asks, and the room. */
public final class StateTest {
    private static final long MINUS_12_5 = Double.doubleToRawLongBits(-12.5);

    public static void main(String[] args) {
        thrownCallsChangeNothing();
        askingChangesNothing();
        makingLeavesTextAndResult();
        roundingLeavesTexts();
        theRoomStaysSmall();
        Due.end(StateTest.class);
    }

    /** An object of which every part has something. */
    private static FloatTexts filled() {
        FloatTexts x = Due.with("-1.5e-400");
        x.exact(0, MINUS_12_5, 1);
        x.read(0, 4);
        return x;
    }

    private static void isFilled(String what, FloatTexts x) {
        Due.same(what + ": result", x.result(), Long.MIN_VALUE | 1);
        Due.same(what + ": flags", x.flags(), 5);
        Due.same(what + ": OUT", "" + (char) x.out(0) + (char) x.out(1) + (char) x.out(2) + (char) x.out(3) + (char) x.out(4), "-12.5");
        Due.outside(what + ": OUT's end", x, y -> y.out(5));
        Due.same(what + ": the decimal", "" + x.decimal(0) + x.decimal(1) + x.decimal(2), "321");
        Due.same(what + ": digits", "" + x.digit(0) + x.digit(1) + x.digit(2), "125");
        Due.same(what + ": TEXT is read", x.read(0, 4), 0);
        Due.same(what + ": TEXT", x.type(0, 0), 9);
    }

    private static void thrownCallsChangeNothing() {
        Due.Call[] calls = {
            x -> x.type(0, 9), x -> x.read(4, 0), x -> x.read(0, 5),
            x -> x.shortest(4, 0, 0), x -> x.shortest(1, -1, 0), x -> x.shortest(0, 0, 3),
            x -> x.exact(-1, 0, 0), x -> x.exact(2, 65536, 0), x -> x.exact(0, 0, -1),
            x -> x.middle(4, 0, 0), x -> x.middle(3, 65536, 0), x -> x.middle(0, 0, 3),
            x -> x.middle(0, 0x7ff0000000000000L, 0), x -> x.middle(0, -1, 0),
            x -> x.digits(4, 0, 1, 0, 0), x -> x.digits(1, -1, 1, 0, 0), x -> x.digits(0, 0, 0, 0, 0),
            x -> x.digits(0, 0, 801, 0, 0), x -> x.digits(0, 0, 1, 5, 0), x -> x.digits(0, 0, 1, 0, 3),
            x -> x.fixed(4, 0, 1, 0), x -> x.fixed(1, -1, 1, 0), x -> x.fixed(0, 0, -1, 0), x -> x.fixed(0, 0, 1101, 0),
            x -> x.fixed(0, 0, 1, -1), x -> x.hex(4, 0), x -> x.hex(2, -1), x -> x.decimal(3),
            x -> x.nearest(4, 1, 0, 0), x -> x.nearest(0, 1, 5001, 0), x -> x.nearest(0, 1, -5001, 0), x -> x.nearest(0, 1, 0, 5),
            x -> x.power(4, 1, 0, 0), x -> x.power(0, 1, 0, 5), x -> x.convert(4, 0, 0, 0), x -> x.convert(1, -1, 0, 0),
            x -> x.convert(0, 0, 4, 0), x -> x.convert(0, 0, 0, 5), x -> x.next(4, 0, true), x -> x.next(1, -1, true),
            x -> x.steps(4, 0, 0), x -> x.steps(1, -1, 0), x -> x.steps(1, 0, -1), x -> x.steps(0, -1, 0), x -> x.steps(0, 0, -1),
            x -> x.compare(4, 0, 0), x -> x.compare(1, -1, 0), x -> x.compare(1, 0, -1),
            x -> x.order(4, 0, 0), x -> x.order(1, -1, 0), x -> x.order(1, 0, -1), x -> x.kind(4, 0), x -> x.kind(1, -1),
            x -> x.reads(4, 0, 1, 0) ? 1 : 0, x -> x.reads(1, -1, 1, 0) ? 1 : 0, x -> x.reads(0, 0, 1, 5001) ? 1 : 0,
            x -> x.holds(4, 1) ? 1 : 0, x -> x.holds(1, -1) ? 1 : 0, x -> x.holds(0, 0) ? 1 : 0, x -> x.holds(0, -1) ? 1 : 0,
            x -> x.holds(0, Long.MIN_VALUE) ? 1 : 0, x -> x.holds(0, 0x7ff0000000000000L) ? 1 : 0
        };
        for (int i = 0; i < calls.length; i++) {
            FloatTexts x = filled();
            Due.refuses("wrong call " + i, x, calls[i]);
            isFilled("wrong call " + i, x);
        }
        Due.Call[] outside = {x -> x.out(5), x -> x.out(-1), x -> x.digit(3), x -> x.digit(-1)};
        for (int i = 0; i < outside.length; i++) {
            FloatTexts x = filled();
            Due.outside("call outside " + i, x, outside[i]);
            isFilled("call outside " + i, x);
        }
    }

    private static void askingChangesNothing() {
        Due.Call[] calls = {
            x -> x.result(), x -> x.flags(), x -> x.out(0), x -> x.decimal(0), x -> x.digit(0), x -> x.next(0, 5, true),
            x -> x.steps(0, 5, 7), x -> x.compare(0, 5, 7), x -> x.order(0, 5, 7), x -> x.kind(0, 5),
            x -> x.reads(0, 5, 25, -324) ? 1 : 0, x -> x.holds(0, 5) ? 1 : 0, x -> x.holds(0, MINUS_12_5) ? 1 : 0, x -> x.type(-1, 0)
        };
        for (int i = 0; i < calls.length; i++) {
            FloatTexts x = filled();
            calls[i].on(x);
            isFilled("asking call " + i, x);
        }
        FloatTexts full = filled();
        full.clear();
        for (int i = 0; i < 200; i++) {
            full.type(0x3030303030303030L, 8);
        }
        Due.same("no room to type", full.type(0x30, 1), -1);
        Due.same("no room to pass", full.pass(), -1);
        Due.same("all is there still", full.clear(), 1600);
        Due.typeAll(full, "-1.5e-400");
        isFilled("no room", full);
        full.type('x', 1);
        Due.same("a fault", full.read(0, 0), -10);
        Due.same("the result stays", full.result(), Long.MIN_VALUE | 1);
        Due.same("the flags stay", full.flags(), 5);
    }

    private static void makingLeavesTextAndResult() {
        Due.Call[] calls = {
            x -> x.shortest(0, 5, 0), x -> x.exact(0, 5, 0), x -> x.middle(0, 5, 0), x -> x.digits(0, 5, 3, 0, 0),
            x -> x.fixed(0, 5, 3, 3), x -> x.hex(0, 5), x -> x.shortest(0, -1, 0), x -> x.shortest(0, 0, 0)
        };
        for (int i = 0; i < calls.length; i++) {
            FloatTexts x = filled();
            calls[i].on(x);
            Due.same("making call " + i + ": result", x.result(), Long.MIN_VALUE | 1);
            Due.same("making call " + i + ": flags", x.flags(), 5);
            Due.same("making call " + i + ": TEXT", x.type(0, 0), 9);
            Due.same("making call " + i + ": TEXT is read", x.read(0, 2), 0);
            Due.same("making call " + i + ": and rounded", x.result(), Long.MIN_VALUE);
            calls[i].on(x);
            x.exact(0, MINUS_12_5, 1);
            x.read(0, 4);
            isFilled("after making call " + i, x);
        }
    }

    private static void roundingLeavesTexts() {
        Due.Call[] calls = {
            x -> x.nearest(0, 7, -320, 0), x -> x.power(0, 7, -1080, 0), x -> x.convert(0, 7, 1, 0), x -> x.convert(0, -1, 1, 0)
        };
        for (int i = 0; i < calls.length; i++) {
            FloatTexts x = filled();
            Due.same("rounding call " + i, calls[i].on(x), x.result());
            x.read(0, 4);
            isFilled("rounding call " + i, x);
        }
    }

    /** All calls of a run live in one room: an object is small, and its calls make no others. */
    private static void theRoomStaysSmall() {
        long before = allocated();
        FloatTexts[] objects = new FloatTexts[100];
        for (int i = 0; i < objects.length; i++) {
            objects[i] = new FloatTexts();
        }
        long object = (allocated() - before) / objects.length;
        Due.holds("an object has at most 16000 bytes, it has " + object, object <= 16000);
        dearCalls(objects[0]);
        before = allocated();
        dearCalls(objects[1]);
        long calls = allocated() - before;
        Due.holds("the calls make nothing, they made " + calls + " bytes", calls <= 1000);
    }

    private static void dearCalls(FloatTexts x) {
        for (int i = 0; i < 40; i++) {
            x.middle(0, 1 + i, 1);
            x.clear();
            x.pass();
            x.read(0, i % 5);
            x.holds(0, 1 + i);
            x.fixed(0, 0x7fefffffffffffffL - i, 1100, i % 5);
            x.digits(0, 1 + i, 800, i % 5, 1);
            x.nearest(0, Long.MIN_VALUE, -340, i % 5);
            x.hex(0, -1L >>> 12);
        }
    }

    private static long allocated() {
        com.sun.management.ThreadMXBean threads = (com.sun.management.ThreadMXBean) ManagementFactory.getThreadMXBean();
        return threads.getThreadAllocatedBytes(Thread.currentThread().getId());
    }
}
