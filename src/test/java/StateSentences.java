import java.util.ArrayList;
import java.util.List;

/** Terms: OUT, THE DECIMAL, THE RESULT, refused calls, and that these change nothing. */
final class StateSentences extends Sentences {
    private static final long MINUS_12_5 = Double.doubleToRawLongBits(-12.5);

    private StateSentences() {
    }

    /** An object of which every part has something. */
    static FloatTexts filled() {
        FloatTexts x = Due.with("-1.5e-400");
        x.exact(0, MINUS_12_5, 1);
        x.read(0, 4);
        return x;
    }

    static void isFilled(String what, FloatTexts x) {
        same(what + ": result", x.result(), Long.MIN_VALUE | 1);
        same(what + ": flags", x.flags(), 5);
        same(what + ": OUT", outNow(x, 5), "-12.5");
        same(what + ": the decimal", toldNow(x), "-@2:125");
        same(what + ": TEXT has as many bytes", x.type(0, 0), 9);
        x.power(0, 1, 0, 0);
        same(what + ": TEXT is read", x.read(0, 4), 0);
        same(what + ": as before", rounded(x), rounded(Long.MIN_VALUE | 1, 5));
        same(what + ": TEXT is cleared", x.clear(), 9);
    }

    @Says(at = "What it is", words = "An object is used for at most 512 calls after it has been made")
    static void theLastOf512Calls() {
        FloatTexts x = new FloatTexts();
        for (int i = 0; i < 100; i++) {
            same("type in round " + i, x.type('7', 1), 1);
            same("read in round " + i, x.read(i % 4, 0), 0);
            same("exact in round " + i, x.exact(0, x.result() & 0xffff, 0) > 0 ? 1 : 0, 1);
            same("clear in round " + i, x.clear(), 1);
        }
        for (int i = 500; i < 512; i++) {
            same("call " + i, x.shortest(0, bits(0.1), 1), 3);
        }
    }

    @Says(at = "Terms", words = "OUT is the text that was made last, at most 1500 bytes")
    static void theTextMadeLast() {
        FloatTexts x = new FloatTexts();
        same("the longest one", x.fixed(0, minus(0, GREATEST[0]), 1100, 0), 1411);
        same("its last byte", x.out(1410), '0');
        isOutside("it ends there", x, y -> y.out(1411));
        same("a middle", x.middle(0, SIGN[0], 1), 1 + 2 + 323 + 752);
        same("its last byte", x.out(1077), '5');
        same("digits", x.digits(0, minus(0, 1), 800, 0, 1), 1 + 2 + 323 + 800);
        same("a short one", x.shortest(0, bits(3), 1), 1);
        same("OUT", outNow(x, 1), "3");
        same("a hexadecimal one", x.hex(0, bits(3)), 7);
        same("OUT", outNow(x, 7), "0x1.8p1");
        x.pass();
        x.read(0, 0);
        x.nearest(0, 7, 0, 0);
        x.holds(0, bits(0.1));
        x.clear();
        same("other calls make none", outNow(x, 7), "0x1.8p1");
    }

    @Says(at = "Terms", words = "THE DECIMAL that of the last shortest(), exact(), middle(), digits(), fixed()")
    static void theDecimalMadeLast() {
        FloatTexts x = new FloatTexts();
        x.exact(0, bits(-1.25), 0);
        same("exact", toldNow(x), "-@1:125");
        x.shortest(0, bits(0.1), 0);
        same("shortest", toldNow(x), "+@0:1");
        x.middle(2, 0x6800, 0);
        same("middle", toldNow(x), "+@4:2049");
        x.digits(0, bits(-1234), 2, 0, 0);
        same("digits", toldNow(x), "-@4:12");
        x.fixed(0, bits(0.25), 3, 0);
        same("fixed", toldNow(x), "+@0:250");
        x.type('9', 1);
        x.read(0, 0);
        x.pass();
        x.nearest(0, 1, 1, 0);
        x.holds(0, bits(-0.3));
        x.reads(0, 5, 25, -324);
        same("other calls tell none", toldNow(x), "+@0:250");
    }

    @Says(at = "Terms", words = "(hex() makes none: no digits, point 0, but the sign is told)")
    static void hexTellsOnlyTheSign() {
        FloatTexts x = new FloatTexts();
        x.exact(0, bits(12.5), 0);
        x.hex(0, bits(-12.5));
        same("hex with minus", toldNow(x), "-@0:");
        x.exact(0, bits(-12.5), 0);
        x.hex(0, bits(12.5));
        same("hex with plus", toldNow(x), "+@0:");
        x.exact(0, bits(12.5), 0);
        x.hex(0, bits(-0.0));
        same("hex of -0", toldNow(x), "-@0:");
        x.exact(0, bits(12.5), 0);
        x.hex(2, 0xfc00);
        same("hex of -inf", toldNow(x), "-@0:");
    }

    @Says(at = "Terms", words = "THE RESULT and its FLAGS are those of the last read() without a fault, nearest(), power(), convert(); 0 at first.")
    static void theLastResult() {
        FloatTexts x = Due.with("1e-400");
        same("at first", rounded(x), "0 0");
        same("nearest", x.nearest(2, 2049, 0, 0), 0x6800);
        same("nearest is kept", rounded(x), "6800 1");
        same("read", x.read(1, 3), 0);
        same("read is kept", rounded(x), "1 5");
        same("power", x.power(3, 1, 128, 2), 0x7f7f);
        same("power is kept", rounded(x), "7f7f 3");
        x.type('x', 1);
        same("a fault", x.read(0, 0), -7);
        same("a fault keeps nothing", rounded(x), "7f7f 3");
        same("convert", x.convert(0, bits(1), 2, 0), 0x3c00);
        same("convert is kept", rounded(x), "3c00 0");
        x.reads(0, 0, 7, 0);
        x.holds(0, bits(0.1));
        x.next(0, 5, true);
        x.steps(0, 5, 7);
        x.shortest(0, 5, 0);
        same("other calls keep nothing", rounded(x), "3c00 0");
    }

    private interface Formatted {
        long on(FloatTexts x, int format, long bits);
    }

    private static final Formatted[] WITH_PATTERN = {
        (x, f, b) -> x.shortest(f, b, 0), (x, f, b) -> x.exact(f, b, 0), (x, f, b) -> x.middle(f, b, 0),
        (x, f, b) -> x.digits(f, b, 1, 0, 0), (x, f, b) -> x.fixed(f, b, 0, 0), (x, f, b) -> x.hex(f, b),
        (x, f, b) -> x.convert(f, b, 0, 0), (x, f, b) -> x.next(f, b, true), (x, f, b) -> x.next(f, b, false),
        (x, f, b) -> x.steps(f, b, 1), (x, f, b) -> x.steps(f, 1, b), (x, f, b) -> x.compare(f, b, 1),
        (x, f, b) -> x.compare(f, 1, b), (x, f, b) -> x.order(f, b, 1), (x, f, b) -> x.order(f, 1, b),
        (x, f, b) -> x.kind(f, b), (x, f, b) -> x.reads(f, b, 1, 0) ? 1 : 0, (x, f, b) -> x.holds(f, b) ? 1 : 0
    };
    private static final Formatted[] WITHOUT_PATTERN = {
        (x, f, b) -> x.read(f, 0), (x, f, b) -> x.nearest(f, 1, 0, 0), (x, f, b) -> x.nearest(f, 0, 0, 0),
        (x, f, b) -> x.power(f, 1, 0, 0), (x, f, b) -> x.power(f, 0, 0, 0), (x, f, b) -> x.convert(0, 1, f, 0),
        (x, f, b) -> x.convert(0, 0, f, 0), (x, f, b) -> x.convert(0, -1, f, 0)
    };

    @Says(at = "Terms", words = "IllegalArgumentException: format is not 0 .. 3")
    static void formatsThatAreNone() {
        List<Formatted> all = new ArrayList<>(List.of(WITH_PATTERN));
        all.addAll(List.of(WITHOUT_PATTERN));
        for (int i = 0; i < all.size(); i++) {
            Formatted call = all.get(i);
            for (int wrong : new int[] {-1, 4, ENDS[0], ENDS[1]}) {
                refused("call " + i + ", format " + wrong, x -> call.on(x, wrong, 1));
            }
            for (int right = 0; right < 4; right++) {
                int format = right;
                same("call " + i + ", format " + right, Due.thrownBy(Due.with("1"), x -> call.on(x, format, 1)), "nothing");
            }
        }
    }

    @Says(at = "Terms", words = "a pattern has other bits")
    static void patternsThatAreNone() {
        for (int i = 0; i < WITH_PATTERN.length; i++) {
            Formatted call = WITH_PATTERN[i];
            for (int f = 1; f < 4; f++) {
                int format = f;
                long[] wrong = {1L << BITS[f], 1L << BITS[f] | 1, Long.MIN_VALUE | 1, -1L, 1L << 62 | 1};
                for (long pattern : wrong) {
                    refused("call " + i + ", format " + f + ", pattern " + pattern, x -> call.on(x, format, pattern));
                }
                same("call " + i + ", the sign is no other bit",
                    Due.thrownBy(new FloatTexts(), x -> call.on(x, format, SIGN[format] | 1)), "nothing");
            }
            same("call " + i + ", format 0 has all bits",
                Due.thrownBy(new FloatTexts(), x -> call.on(x, 0, Long.MIN_VALUE | 1)), "nothing");
        }
    }

    private interface Chosen {
        long on(FloatTexts x, int choice);
    }

    private static final Chosen[] WITH_WAY = {
        (x, way) -> x.read(0, way), (x, way) -> x.digits(0, 1, 1, way, 0), (x, way) -> x.digits(0, INFINITE[0], 1, way, 0),
        (x, way) -> x.fixed(0, 1, 1, way), (x, way) -> x.fixed(0, INFINITE[0], 1, way), (x, way) -> x.nearest(0, 1, 0, way),
        (x, way) -> x.nearest(0, 0, 0, way), (x, way) -> x.power(0, 1, 0, way), (x, way) -> x.power(0, 0, 0, way),
        (x, way) -> x.convert(0, 1, 0, way), (x, way) -> x.convert(0, 0, 0, way), (x, way) -> x.convert(0, -1, 0, way)
    };
    private static final Chosen[] WITH_FORM = {
        (x, form) -> x.shortest(0, 1, form), (x, form) -> x.shortest(0, INFINITE[0], form), (x, form) -> x.shortest(0, 0, form),
        (x, form) -> x.exact(0, 1, form), (x, form) -> x.exact(0, INFINITE[0], form), (x, form) -> x.middle(0, 1, form),
        (x, form) -> x.digits(0, 1, 1, 0, form), (x, form) -> x.digits(0, INFINITE[0], 1, 0, form)
    };

    private static void chosen(Chosen[] calls, int most, String what) {
        for (int i = 0; i < calls.length; i++) {
            Chosen call = calls[i];
            for (int wrong : new int[] {-1, most + 1, ENDS[0], ENDS[1]}) {
                refused(what + " " + wrong + ", call " + i, x -> call.on(x, wrong));
                same(what + " " + wrong + ", call " + i + " with a TEXT", Due.thrownBy(Due.with("1"), x -> call.on(x, wrong)),
                    "IllegalArgumentException");
            }
            for (int right = 0; right <= most; right++) {
                int choice = right;
                same(what + " " + right + ", call " + i, Due.thrownBy(Due.with("1"), x -> call.on(x, choice)), "nothing");
            }
        }
    }

    @Says(at = "Terms", words = "way is not 0 .. 4")
    static void waysThatAreNone() {
        chosen(WITH_WAY, 4, "way");
    }

    @Says(at = "Terms", words = "form not 0 .. 2")
    static void formsThatAreNone() {
        chosen(WITH_FORM, 2, "form");
    }

    @Says(at = "Terms", words = "A call that throws changes nothing.")
    static void whatThrowsChangesNothing() {
        Due.Call[] calls = {
            x -> x.type(0, 9), x -> x.type(0, -1), x -> x.read(4, 0), x -> x.read(0, 5),
            x -> x.shortest(4, 0, 0), x -> x.shortest(1, -1, 0), x -> x.shortest(0, 0, 3),
            x -> x.exact(-1, 0, 0), x -> x.exact(2, 65536, 0), x -> x.exact(0, 0, -1),
            x -> x.middle(4, 0, 0), x -> x.middle(3, 65536, 0), x -> x.middle(0, 0, 3),
            x -> x.middle(0, 0x7ff0000000000000L, 0), x -> x.middle(0, -1, 0),
            x -> x.digits(4, 0, 1, 0, 0), x -> x.digits(1, -1, 1, 0, 0), x -> x.digits(0, 0, 0, 0, 0),
            x -> x.digits(0, 0, 801, 0, 0), x -> x.digits(0, 0, 1, 5, 0), x -> x.digits(0, 0, 1, 0, 3),
            x -> x.fixed(4, 0, 1, 0), x -> x.fixed(1, -1, 1, 0), x -> x.fixed(0, 0, -1, 0), x -> x.fixed(0, 0, 1101, 0),
            x -> x.fixed(0, 0, 1, -1), x -> x.hex(4, 0), x -> x.hex(2, -1), x -> x.decimal(3), x -> x.decimal(-1),
            x -> x.nearest(4, 1, 0, 0), x -> x.nearest(0, 1, 5001, 0), x -> x.nearest(0, 1, -5001, 0), x -> x.nearest(0, 1, 0, 5),
            x -> x.power(4, 1, 0, 0), x -> x.power(0, 1, 0, 5), x -> x.convert(4, 0, 0, 0), x -> x.convert(1, -1, 0, 0),
            x -> x.convert(0, 0, 4, 0), x -> x.convert(0, 0, 0, 5), x -> x.next(4, 0, true), x -> x.next(1, -1, true),
            x -> x.steps(4, 0, 0), x -> x.steps(1, -1, 0), x -> x.steps(1, 0, -1), x -> x.steps(0, -1, 0), x -> x.steps(0, 0, -1),
            x -> x.compare(4, 0, 0), x -> x.compare(1, -1, 0), x -> x.compare(1, 0, -1),
            x -> x.order(4, 0, 0), x -> x.order(1, -1, 0), x -> x.order(1, 0, -1), x -> x.kind(4, 0), x -> x.kind(1, -1),
            x -> x.reads(4, 0, 1, 0) ? 1 : 0, x -> x.reads(1, -1, 1, 0) ? 1 : 0, x -> x.reads(0, 0, 1, 5001) ? 1 : 0,
            x -> x.holds(4, 1) ? 1 : 0, x -> x.holds(1, -1) ? 1 : 0, x -> x.holds(0, 0) ? 1 : 0, x -> x.holds(0, -1) ? 1 : 0,
            x -> x.holds(0, Long.MIN_VALUE) ? 1 : 0, x -> x.holds(0, 0x7ff0000000000000L) ? 1 : 0
        };
        for (int i = 0; i < calls.length; i++) {
            FloatTexts x = filled();
            Due.refuses("wrong call " + i, x, calls[i]);
            isFilled("wrong call " + i, x);
        }
        Due.Call[] outside = {x -> x.out(5), x -> x.out(-1), x -> x.digit(3), x -> x.digit(-1)};
        for (int i = 0; i < outside.length; i++) {
            FloatTexts x = filled();
            isOutside("call outside " + i, x, outside[i]);
            isFilled("call outside " + i, x);
        }
    }
}
