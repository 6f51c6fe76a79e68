/** Terms: the formats and what their patterns are. */
final class FormatSentences extends Sentences {
    private FormatSentences() {
    }

    @Says(at = "Terms", words = "FORMATS 0 .. 3 have BITS, a PRECISION P and a greatest exponent E: "
        + "0: 64, 53, 1023. 1: 32, 24, 127. 2: 16, 11, 15. 3: 16, 8, 127.")
    static void theEndsOfEachFormat() {
        same("greatest of 0", out(x -> x.hex(0, GREATEST[0])), "0x1.fffffffffffffp1023");
        same("greatest of 1", out(x -> x.hex(1, GREATEST[1])), "0x1.fffffep127");
        same("greatest of 2", out(x -> x.hex(2, GREATEST[2])), "0x1.ffcp15");
        same("greatest of 3", out(x -> x.hex(3, GREATEST[3])), "0x1.fep127");
        same("least of 0", out(x -> x.hex(0, 1)), "0x1p-1074");
        same("least of 1", out(x -> x.hex(1, 1)), "0x1p-149");
        same("least of 2", out(x -> x.hex(2, 1)), "0x1p-24");
        same("least of 3", out(x -> x.hex(3, 1)), "0x1p-133");
    }

    @Says(at = "Terms", words = "A PATTERN is a long of which the lowest BITS count (no other is set).")
    static void theLastPatternAndTheFirstThatIsNone() {
        for (int f = 0; f < 4; f++) {
            int format = f;
            long last = f == 0 ? -1L : (1L << BITS[f]) - 1;
            same("the last pattern of " + f, new FloatTexts().kind(f, last), 4);
            if (f > 0) {
                refused("one more than it", x -> x.kind(format, last + 1));
                refused("the highest bit of a long", x -> x.kind(format, Long.MIN_VALUE));
                refused("all bits of a long", x -> x.kind(format, -1L));
            }
        }
    }

    @Says(at = "Terms", words = "The highest of these is the SIGN (1: minus)")
    static void theSignIsTheHighestBit() {
        for (int f = 0; f < 4; f++) {
            int format = f;
            same("1 of " + f, out(x -> x.shortest(format, ONE[format], 1)), "1");
            same("-1 of " + f, out(x -> x.shortest(format, minus(format, ONE[format]), 1)), "-1");
            same("the bit below it is no sign", out(x -> x.shortest(format, TWO[format], 1)), "2");
        }
    }

    @Says(at = "Terms", words = "behind it are BITS - P bits, the EXPONENT x, then P - 1 bits, the FRACTION y.")
    static void whereExponentAndFractionMeet() {
        same("1 and the lowest bit of y, 0", out(x -> x.hex(0, ONE[0] + 1)), "0x1.0000000000001p0");
        same("1 and the lowest bit of y, 1", out(x -> x.hex(1, ONE[1] + 1)), "0x1.000002p0");
        same("1 and the lowest bit of y, 2", out(x -> x.hex(2, ONE[2] + 1)), "0x1.004p0");
        same("1 and the lowest bit of y, 3", out(x -> x.hex(3, ONE[3] + 1)), "0x1.02p0");
        for (int f = 0; f < 4; f++) {
            int format = f;
            long unit = LEAST_NORMAL[f];
            same("the highest bit of y, " + f, out(x -> x.hex(format, ONE[format] + unit / 2)), "0x1.8p0");
            same("the lowest bit of x, " + f, out(x -> x.hex(format, ONE[format] - unit)), "0x1p-1");
        }
    }

    @Says(at = "Terms", words = "With all bits of x set it is INFINITE if y is 0, else a NAN.")
    static void aboutInfinite() {
        for (int f = 0; f < 4; f++) {
            for (long sign : new long[] {0, SIGN[f]}) {
                FloatTexts x = new FloatTexts();
                same("all bits of x but the lowest", x.kind(f, sign | GREATEST[f]), 2);
                same("y 0", x.kind(f, sign | INFINITE[f]), 3);
                same("y 1", x.kind(f, sign | INFINITE[f] + 1), 4);
                same("the highest bit of y", x.kind(f, sign | NAN[f]), 4);
                same("all bits of y", x.kind(f, sign | SIGN[f] - 1), 4);
            }
        }
    }

    @Says(at = "Terms", words = "With x 0 its SIZE is y * 2^(2 - E - P): ZERO, or SUBNORMAL")
    static void withExponentZero() {
        for (int f = 0; f < 4; f++) {
            FloatTexts x = new FloatTexts();
            same("y 0", x.kind(f, 0), 0);
            same("y 0, minus", x.kind(f, SIGN[f]), 0);
            same("y 1", x.kind(f, 1), 1);
            same("all bits of y", x.kind(f, GREATEST_SUBNORMAL[f]), 1);
        }
        same("0", out(x -> x.exact(0, 0, 0)), "0e0");
        same("the greatest subnormal of 0", out(x -> x.hex(0, GREATEST_SUBNORMAL[0])), "0x1.ffffffffffffep-1023");
        same("the greatest subnormal of 1", out(x -> x.hex(1, GREATEST_SUBNORMAL[1])), "0x1.fffffcp-127");
        same("the greatest subnormal of 2", out(x -> x.hex(2, GREATEST_SUBNORMAL[2])), "0x1.ff8p-15");
        same("the greatest subnormal of 3", out(x -> x.hex(3, GREATEST_SUBNORMAL[3])), "0x1.fcp-127");
        same("2^-24", out(x -> x.exact(2, 1, 1)), "0.000000059604644775390625");
    }

    @Says(at = "Terms", words = "else it is (2^(P-1) + y) * 2^(x + 1 - E - P): NORMAL.")
    static void withTheLeastExponentOfNormalNumbers() {
        for (int f = 0; f < 4; f++) {
            same("x 1", new FloatTexts().kind(f, LEAST_NORMAL[f]), 2);
            same("x 1, minus", new FloatTexts().kind(f, minus(f, LEAST_NORMAL[f])), 2);
        }
        same("the least normal of 0", out(x -> x.hex(0, LEAST_NORMAL[0])), "0x1p-1022");
        same("the least normal of 1", out(x -> x.hex(1, LEAST_NORMAL[1])), "0x1p-126");
        same("the least normal of 2", out(x -> x.hex(2, LEAST_NORMAL[2])), "0x1p-14");
        same("the least normal of 3", out(x -> x.hex(3, LEAST_NORMAL[3])), "0x1p-126");
        same("2^-14", out(x -> x.exact(2, 0x0400, 1)), "0.00006103515625");
        same("65504", out(x -> x.exact(2, GREATEST[2], 1)), "65504");
    }

    @Says(at = "Terms", words = "A number is its size with its sign (0 has one, too).")
    static void zeroHasASign() {
        for (int f = 0; f < 4; f++) {
            int format = f;
            same("-0 of " + f, out(x -> x.shortest(format, SIGN[format], 1)), "-0");
            same("0 of " + f, out(x -> x.shortest(format, 0, 1)), "0");
            same("-0, exact", out(x -> x.exact(format, SIGN[format], 1)), "-0");
            same("-0, its sign", told(x -> x.exact(format, SIGN[format], 1)), "-@1:0");
            same("-0, converted", new FloatTexts().convert(f, SIGN[f], 0, 0), SIGN[0]);
            same("-2.5", out(x -> x.exact(0, bits(-2.5), 1)), "-2.5");
        }
    }
}
