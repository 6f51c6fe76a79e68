/** Promises 1 to 7: a new object, type, pass, clear, read, result, flags. */
final class TextsInSentences extends Sentences {
    private static final long ZEROS = 0x3030303030303030L;

    private TextsInSentences() {
    }

    /** A TEXT of so many bytes, all of them 0, with a 1 before them. */
    private static FloatTexts withBytes(int count) {
        return Due.with("1" + "0".repeat(count - 1));
    }

    @Says(at = "Promise 1", words = "TEXT and OUT are empty")
    static void newTextAndOut() {
        same("bytes of TEXT", new FloatTexts().clear(), 0);
        same("TEXT is read", new FloatTexts().read(0, 0), -1);
        same("OUT is passed", new FloatTexts().pass(), 0);
        isOutside("OUT has no byte", new FloatTexts(), x -> x.out(0));
    }

    @Says(at = "Promise 1", words = "the DECIMAL has no digits, point 0.")
    static void newDecimal() {
        same("digits", new FloatTexts().decimal(0), 0);
        same("point", new FloatTexts().decimal(1), 0);
        same("sign", new FloatTexts().decimal(2), 0);
        isOutside("no digit", new FloatTexts(), x -> x.digit(0));
    }

    @Says(at = "Promise 2", words = "The n lowest bytes of a number, the lowest first, come behind the TEXT: how many it has")
    static void theLowestBytesFirst() {
        FloatTexts x = new FloatTexts();
        same("three bytes", x.type(0xffffffffff_35_2e_31L, 3), 3);
        same("1.5", x.read(0, 0), 0);
        same("its pattern", x.result(), bits(1.5));
        same("five more", x.type(0x3530302d65L, 5), 8);
        same("1.5e-005", x.read(0, 0), 0);
        same("its pattern", x.result(), bits(1.5e-5));
        x.clear();
        same("eight bytes", x.type(0x38_37_36_35_34_33_32_31L, 8), 8);
        same("12345678", x.read(0, 0), 0);
        same("its pattern", x.result(), bits(12345678));
        same("the highest byte is taken, too", x.type(0xff30303030303030L, 8), 16);
        same("and is byte 15", x.read(0, 0), -16);
    }

    @Says(at = "Promise 2", words = "NONE, and nothing changes, when they would be more than 1600.")
    static void moreThan1600() {
        for (int n = 0; n <= 8; n++) {
            FloatTexts x = withBytes(1600 - n);
            same("just 1600 with " + n, x.type(ZEROS, n), 1600);
            if (n < 8) {
                FloatTexts y = withBytes(1600 - n);
                same("one more, " + (n + 1), y.type(ZEROS, n + 1), FloatTexts.NONE);
                same("nothing changes", y.type(0, 0), 1600 - n);
                same("it is read as before", y.read(0, 0), 0);
                same("and cleared", y.clear(), 1600 - n);
            }
        }
        same("NONE", FloatTexts.NONE, -1);
        same("none at all to a full TEXT", withBytes(1600).type(-1, 0), 1600);
    }

    @Says(at = "Promise 2", words = "IllegalArgumentException: n is not 0 .. 8.")
    static void wrongCounts() {
        for (int n : new int[] {-1, 9, ENDS[0], ENDS[1], -8, 16}) {
            refused("n " + n, x -> x.type(ZEROS, n));
            same("n " + n + " to a full TEXT", Due.thrownBy(withBytes(1600), x -> x.type(ZEROS, n)), "IllegalArgumentException");
        }
        for (int n = 0; n <= 8; n++) {
            same("n " + n, new FloatTexts().type(ZEROS, n), n);
        }
    }

    @Says(at = "Promise 2", words = "(n 0: nothing comes.)")
    static void nothingComes() {
        FloatTexts x = new FloatTexts();
        same("to an empty TEXT", x.type(ZEROS, 0), 0);
        same("it is empty still", x.read(0, 0), -1);
        x.type('5', 1);
        same("to another", x.type(ZEROS, 0), 1);
        same("it is read", x.read(0, 0), 0);
        same("5", x.result(), bits(5));
    }

    @Says(at = "Promise 3", words = "OUT comes behind the TEXT: how many bytes that has")
    static void outComesBehind() {
        FloatTexts x = new FloatTexts();
        same("an empty OUT", x.pass(), 0);
        x.type('-', 1);
        same("an empty OUT behind a byte", x.pass(), 1);
        x.exact(0, bits(12.5), 1);
        same("12.5 behind -", x.pass(), 5);
        same("it is read", x.read(0, 0), 0);
        same("-12.5", x.result(), bits(-12.5));
        same("again", x.pass(), 9);
        same("a second point", x.read(0, 0), -1 - 7);
        same("OUT stays", outNow(x, 4), "12.5");
        x.clear();
        x.hex(0, bits(-1.5));
        same("a hexadecimal one", x.pass(), 8);
        same("it is read", x.read(0, 0), 0);
        same("-1.5", x.result(), bits(-1.5));
    }

    @Says(at = "Promise 3", words = "NONE, and nothing changes, when they would be more than 1600.")
    static void outHasNoRoom() {
        FloatTexts x = withBytes(1596);
        x.exact(0, bits(1.25), 1);
        same("just 1600", x.pass(), 1600);
        same("it is read", x.read(0, 2), 0);
        same("no more", x.pass(), FloatTexts.NONE);
        same("nothing changes", x.clear(), 1600);
        same("but then there is room", x.pass(), 4);
        FloatTexts y = withBytes(1597);
        y.exact(0, bits(1.25), 1);
        same("1601", y.pass(), FloatTexts.NONE);
        same("nothing of it comes", y.type(0, 0), 1597);
        same("it is read as before", y.read(0, 2), 0);
        same("OUT stays", outNow(y, 4), "1.25");
        FloatTexts full = withBytes(1600);
        same("an empty OUT behind a full TEXT", full.pass(), 1600);
        FloatTexts z = new FloatTexts();
        z.fixed(0, GREATEST[0], 1100, 0);
        same("1410 bytes", z.pass(), 1410);
        same("twice", z.pass(), FloatTexts.NONE);
        same("nothing changes", z.clear(), 1410);
    }

    @Says(at = "Promise 4", words = "The TEXT is empty: how many bytes it had.")
    static void cleared() {
        FloatTexts x = new FloatTexts();
        same("an empty one", x.clear(), 0);
        x.type(0x352e31, 3);
        same("three bytes", x.clear(), 3);
        same("none", x.clear(), 0);
        same("it is empty", x.read(0, 0), -1);
        x.type('7', 1);
        same("only the new one is there", x.read(0, 0), 0);
        same("7", x.result(), bits(7));
        same("a full one", withBytes(1600).clear(), 1600);
        FloatTexts y = StateSentences.filled();
        same("other things", y.clear(), 9);
        same("stay: result", rounded(y), rounded(Long.MIN_VALUE | 1, 5));
        same("stay: OUT", outNow(y, 5), "-12.5");
        same("stay: the decimal", toldNow(y), "-@2:125");
    }

    @Says(at = "Promise 5", words = "The TEXT (which stays) is READ: 0")
    static void theTextStays() {
        FloatTexts x = Due.with("2049");
        same("by way 0", x.read(2, 0), 0);
        same("2048", rounded(x), "6800 1");
        same("again by way 1", x.read(2, 1), 0);
        same("2050", rounded(x), "6801 1");
        same("to another format", x.read(1, 0), 0);
        same("2049", rounded(x), "45001000 0");
        x.type('5', 1);
        same("with a byte behind", x.read(0, 0), 0);
        same("20495", rounded(x), rounded(bits(20495), 0));
        same("all bytes are there", x.clear(), 5);
    }

    /** What a text before it was leaves no trace. */
    @Says(at = "Promise 5", words = "The TEXT (which stays) is READ: 0")
    static void oneTextBehindAnother() {
        String hair = "1." + "0".repeat(1200) + "1";
        String[] texts = {"0x10", "10", "inf", "-nan", "000", "5", "-0x0p5", "1e5", "0x1p-3", hair, "0.5", ".", "-", "00x", "1e", "0x1g"};
        String[] due = {
            rounded(bits(16), 0), rounded(bits(10), 0), rounded(INFINITE[0], 0), rounded(minus(0, NAN[0]), 0), rounded(0, 0),
            rounded(bits(5), 0), rounded(SIGN[0], 0), rounded(bits(1e5), 0), rounded(bits(0.125), 0), rounded(ONE[0], 1),
            rounded(bits(0.5), 0), "fault 1", "fault 1", "fault 2", "fault 2", "fault 3"
        };
        for (String before : texts) {
            for (int i = 0; i < texts.length; i++) {
                FloatTexts x = Due.with(before);
                x.read(0, 0);
                x.clear();
                Due.typeAll(x, texts[i]);
                int answer = x.read(0, 0);
                same("'" + texts[i] + "' behind '" + before + "'", answer == 0 ? rounded(x) : "fault " + (-1 - answer), due[i]);
            }
        }
    }

    @Says(at = "Promise 5", words = "or -1 less the place of its FAULT, and nothing changes.")
    static void theFaultChangesNothing() {
        same("place 0", new FloatTexts().read(0, 0), -1);
        same("place 1", Due.with("-").read(0, 0), -2);
        same("place 2", Due.with("1.x").read(0, 0), -3);
        same("the last place", Due.with("1".repeat(1599) + "x").read(0, 0), -1600);
        same("the end", Due.with("1".repeat(1599) + "e").read(0, 0), -1601);
        for (String wrong : new String[] {"x", "e", "5", ".", "-"}) {
            FloatTexts x = StateSentences.filled();
            x.clear();
            Due.typeAll(x, "-1.5e+" + (wrong.equals("5") ? "" : wrong));
            int bytes = x.type(0, 0);
            same("a fault", x.read(0, 0), -7);
            same("TEXT", x.clear(), bytes);
            Due.typeAll(x, "-1.5e-400");
            StateSentences.isFilled("after a fault", x);
        }
    }

    @Says(at = "Promise 6", words = "THE RESULT.")
    static void theResult() {
        FloatTexts x = new FloatTexts();
        same("of a new object", x.result(), 0);
        x.convert(0, bits(-1.5), 0, 0);
        same("all 64 bits", x.result(), bits(-1.5));
        same("asked again", x.result(), bits(-1.5));
        x.convert(0, bits(-1.5), 2, 0);
        same("of 16 bits", x.result(), 0xbe00);
        x.convert(0, bits(-1.5), 1, 0);
        same("of 32 bits", x.result(), 0xbfc00000L);
    }

    @Says(at = "Promise 7", words = "Its FLAGS.")
    static void theFlags() {
        FloatTexts x = new FloatTexts();
        same("of a new object", x.flags(), 0);
        x.nearest(0, 1, 400, 0);
        same("overflow", x.flags(), 3);
        same("asked again", x.flags(), 3);
        x.nearest(0, 1, -400, 0);
        same("tiny", x.flags(), 5);
        x.nearest(0, 1, -1, 0);
        same("inexact", x.flags(), 1);
        x.nearest(0, 1, 1, 0);
        same("none", x.flags(), 0);
    }
}
