/** Promises 8 to 16: shortest, exact, middle, digits, fixed, hex, out, decimal, digit. */
final class TextsOutSentences extends Sentences {
    private TextsOutSentences() {
    }

    @Says(at = "Promise 8", words = "OUT is the SHORTEST: how many bytes it has.")
    static void shortest() {
        FloatTexts x = new FloatTexts();
        same("form 0", x.shortest(0, bits(-0.1), 0), 5);
        same("its text", outNow(x, 5), "-1e-1");
        same("its decimal", toldNow(x), "-@0:1");
        same("form 1", x.shortest(0, bits(-0.1), 1), 4);
        same("its text", outNow(x, 4), "-0.1");
        same("form 2", x.shortest(0, bits(1e-7), 2), 4);
        same("its text", outNow(x, 4), "1e-7");
        same("0", x.shortest(1, 0, 0), 3);
        same("its text", outNow(x, 3), "0e0");
        same("nan", x.shortest(3, 0xffff, 1), 4);
        same("its text", outNow(x, 4), "-nan");
        same("17 digits", x.shortest(0, GREATEST[0], 0), 22);
    }

    @Says(at = "Promise 9", words = "OUT is EXACT: how many bytes it has.")
    static void exact() {
        FloatTexts x = new FloatTexts();
        same("0.1", x.exact(0, bits(0.1), 1), 57);
        same("-0.375, form 0", x.exact(0, bits(-0.375), 0), 8);
        same("its text", outNow(x, 8), "-3.75e-1");
        same("its decimal", toldNow(x), "-@0:375");
        same("the least, form 1", x.exact(0, 1, 1), 1076);
        same("the least, form 2", x.exact(0, 1, 2), 757);
        same("the greatest, form 1", x.exact(0, GREATEST[0], 1), 309);
        same("inf", x.exact(2, 0x7c00, 0), 3);
        same("its text", outNow(x, 3), "inf");
    }

    @Says(at = "Promise 10", words = "OUT is, EXACT, the middle between the number and that with its sign which is next by size")
    static void middle() {
        same("1 of 2", out(x -> x.middle(2, 0x3c00, 1)), "1.00048828125");
        same("-1 of 2", out(x -> x.middle(2, 0xbc00, 1)), "-1.00048828125");
        same("-1 of 2, the decimal", told(x -> x.middle(2, 0xbc00, 1)), "-@1:100048828125");
        same("2047 of 2", out(x -> x.middle(2, 0x67ff, 1)), "2047.5");
        same("2048 of 2", out(x -> x.middle(2, 0x6800, 1)), "2049");
        same("0 of 2", out(x -> x.middle(2, 0, 0)), "2.98023223876953125e-8");
        same("-0 of 2", out(x -> x.middle(2, 0x8000, 0)), "-2.98023223876953125e-8");
        same("the least of 2", out(x -> x.middle(2, 1, 0)), "8.94069671630859375e-8");
        same("the greatest subnormal of 2", out(x -> x.middle(2, 0x03ff, 0)), "6.10053539276123046875e-5");
        FloatTexts x = new FloatTexts();
        same("0 of 0", x.middle(0, 0, 1), 1077);
        same("its digits", x.decimal(0), 752);
        same("its point", x.decimal(1), -323);
        same("its first digit", x.digit(0), 2);
        same("its last digit", x.digit(751), 5);
        same("the greatest subnormal of 0", x.middle(0, GREATEST_SUBNORMAL[0], 0), 1 + 1 + 767 + 5);
        same("its digits", x.decimal(0), 768);
    }

    @Says(at = "Promise 10", words = "(as if exponents had no greatest one): how many bytes it has.")
    static void middleAboveTheGreatest() {
        same("of 2", out(x -> x.middle(2, GREATEST[2], 1)), "65520");
        same("of 2, minus", out(x -> x.middle(2, minus(2, GREATEST[2]), 0)), "-6.552e4");
        same("of 1", out(x -> x.middle(1, GREATEST[1], 2)), "3.40282356779733661637539395458142568448e38");
        same("of 3", out(x -> x.middle(3, GREATEST[3], 1)), "339617752923046005526922703901628039168");
        FloatTexts x = new FloatTexts();
        same("of 0", x.middle(0, GREATEST[0], 0), 1 + 1 + 308 + 4);
        same("of 0, form 1", x.middle(0, GREATEST[0], 1), 309);
        same("it begins so", "" + x.digit(15) + x.digit(16) + x.digit(17) + x.digit(18), "5807");
        same("it ends so", x.digit(308), 2);
    }

    @Says(at = "Promise 10", words = "IllegalArgumentException, too: it is INFINITE or a NAN.")
    static void middleOfNoNumber() {
        for (int f = 0; f < 4; f++) {
            int format = f;
            for (long pattern : new long[] {INFINITE[f], INFINITE[f] + 1, NAN[f], SIGN[f] - 1}) {
                refused("format " + f, x -> x.middle(format, pattern, 0));
                refused("format " + f + ", minus", x -> x.middle(format, minus(format, pattern), 2));
            }
            same("the greatest is a number", Due.thrownBy(new FloatTexts(), x -> x.middle(format, GREATEST[format], 0)), "nothing");
        }
    }

    @Says(at = "Promise 11", words = "OUT is the number in SO MANY digits: how many bytes it has.")
    static void digits() {
        FloatTexts x = new FloatTexts();
        same("one digit", x.digits(0, bits(-12.5), 1, 0, 0), 4);
        same("its text", outNow(x, 4), "-1e1");
        same("its decimal", toldNow(x), "-@2:1");
        same("four digits", x.digits(0, bits(12.5), 4, 0, 1), 5);
        same("its text", outNow(x, 5), "12.50");
        same("800 digits of the least", x.digits(0, 1, 800, 0, 0), 1 + 1 + 799 + 5);
        same("751 of them are its own", x.digit(750), 5);
        same("the others are 0", x.digit(751) + x.digit(799), 0);
        same("750 digits of the least, by way 0", x.digits(0, 1, 750, 0, 0), 1 + 1 + 749 + 5);
        same("its last one is even", x.digit(749) % 2, 0);
        same("-inf", x.digits(1, 0xff800000L, 3, 0, 0), 4);
        same("its text", outNow(x, 4), "-inf");
    }

    @Says(at = "Promise 11", words = "IllegalArgumentException, too: n is not 1 .. 800.")
    static void digitsOfWrongCount() {
        for (int n : new int[] {0, -1, 801, ENDS[0], ENDS[1]}) {
            for (long pattern : new long[] {0, 1, bits(-2.5), INFINITE[0], -1}) {
                refused("n " + n, x -> x.digits(0, pattern, n, 0, 0));
            }
        }
        same("n 1", new FloatTexts().digits(0, bits(2), 1, 0, 1), 1);
        same("n 800", new FloatTexts().digits(0, bits(2), 800, 0, 1), 801);
    }

    @Says(at = "Promise 12", words = "OUT is the number in SO MANY decimals, in form 1, with as many digits behind a point (no point with n 0)")
    static void fixed() {
        same("n 0", out(x -> x.fixed(0, bits(12.25), 0, 0)), "12");
        same("n 1", out(x -> x.fixed(0, bits(12.25), 1, 0)), "12.2");
        same("n 2", out(x -> x.fixed(0, bits(-12.25), 2, 0)), "-12.25");
        same("n 4", out(x -> x.fixed(0, bits(12.25), 4, 0)), "12.2500");
        same("n 4, the decimal", told(x -> x.fixed(0, bits(12.25), 4, 0)), "+@2:122500");
        same("n 0 of 1e22", out(x -> x.fixed(0, bits(1e22), 0, 0)), "1" + "0".repeat(22));
        same("n 1 of 1e22", out(x -> x.fixed(0, bits(1e22), 1, 0)), "1" + "0".repeat(22) + ".0");
        same("below 1", out(x -> x.fixed(0, bits(0.0625), 3, 0)), "0.062");
        same("below 1, the decimal", told(x -> x.fixed(0, bits(0.0625), 3, 0)), "+@-1:62");
        same("below 0.1, the last digit alone", told(x -> x.fixed(0, bits(0.0625), 2, 0)), "+@-1:6");
        same("the least by way 3", told(x -> x.fixed(0, 1, 3, 3)), "+@-2:1");
        same("how many bytes", new FloatTexts().fixed(0, bits(-12.25), 2, 0), 6);
    }

    @Says(at = "Promise 12", words = "Of what becomes 0 the digits are n and 1, the point is 1.")
    static void fixedThatBecomesZero() {
        same("0.001, n 2", told(x -> x.fixed(0, bits(0.001), 2, 0)), "+@1:000");
        same("0.001, n 2, its text", out(x -> x.fixed(0, bits(0.001), 2, 0)), "0.00");
        same("-0.001, n 2", told(x -> x.fixed(0, bits(-0.001), 2, 0)), "-@1:000");
        same("-0.001, n 2, its text", out(x -> x.fixed(0, bits(-0.001), 2, 0)), "-0.00");
        same("0.5, n 0", told(x -> x.fixed(0, bits(0.5), 0, 0)), "+@1:0");
        same("0.5, n 0, its text", out(x -> x.fixed(0, bits(0.5), 0, 0)), "0");
        same("0.09, n 1", told(x -> x.fixed(0, bits(0.09), 1, 2)), "+@1:00");
        same("0, n 0", told(x -> x.fixed(0, 0, 0, 0)), "+@1:0");
        same("-0, n 3", out(x -> x.fixed(0, SIGN[0], 3, 4)), "-0.000");
        FloatTexts x = new FloatTexts();
        same("0, n 1100", x.fixed(0, 0, 1100, 0), 1102);
        same("its digits", x.decimal(0), 1101);
        same("its point", x.decimal(1), 1);
        same("its last digit", x.digit(1100), 0);
        same("the least in 323 decimals", x.fixed(0, 1, 323, 0), 325);
        same("its digits", x.decimal(0), 324);
        same("its point", x.decimal(1), 1);
    }

    @Says(at = "Promise 12", words = "IllegalArgumentException, too: n is not 0 .. 1100.")
    static void fixedOfWrongCount() {
        for (int n : new int[] {-1, 1101, ENDS[0], ENDS[1]}) {
            for (long pattern : new long[] {0, 1, bits(-2.5), INFINITE[0], -1}) {
                refused("n " + n, x -> x.fixed(0, pattern, n, 0));
            }
        }
        same("n 0", new FloatTexts().fixed(0, bits(2), 0, 0), 1);
        same("n 1100", new FloatTexts().fixed(0, bits(2), 1100, 0), 1102);
        FloatTexts x = new FloatTexts();
        same("n 1100 of the least", x.fixed(0, 1, 1100, 0), 1102);
        same("its digits", x.decimal(0), 1100 - 323);
        same("its own last digit", x.digit(750), 5);
        same("the others are 0", x.digit(751) + x.digit(776), 0);
    }

    @Says(at = "Promise 13", words = "OUT is HEXADECIMAL: how many bytes it has.")
    static void hex() {
        FloatTexts x = new FloatTexts();
        same("-1.5", x.hex(0, bits(-1.5)), 8);
        same("its text", outNow(x, 8), "-0x1.8p0");
        same("0", x.hex(1, 0), 5);
        same("its text", outNow(x, 5), "0x0p0");
        same("the longest", x.hex(0, minus(0, LEAST_NORMAL[0] + 1)), 24);
        same("its text", outNow(x, 24), "-0x1.0000000000001p-1022");
        same("inf", x.hex(2, 0x7c00), 3);
        same("nan", x.hex(2, 0xffff), 4);
    }

    @Says(at = "Promise 14", words = "Byte i of OUT.")
    static void bytesOfOut() {
        FloatTexts x = new FloatTexts();
        x.exact(0, bits(-12.5), 1);
        same("byte 0", x.out(0), 45);
        same("byte 1", x.out(1), 49);
        same("byte 3", x.out(3), 46);
        same("byte 4", x.out(4), 53);
        same("asked again", x.out(0), 45);
    }

    @Says(at = "Promise 14", words = "IndexOutOfBoundsException: it has not so many.")
    static void noSuchByte() {
        FloatTexts x = new FloatTexts();
        isOutside("a new object", x, y -> y.out(0));
        x.exact(0, bits(-12.5), 1);
        for (int i : new int[] {5, 6, -1, ENDS[0], ENDS[1]}) {
            isOutside("byte " + i, x, y -> y.out(i));
        }
        x.exact(0, bits(1), 1);
        isOutside("of what was before", x, y -> y.out(1));
        x.fixed(0, 0, 1100, 0);
        same("the last one", x.out(1101), '0');
        isOutside("behind the last one", x, y -> y.out(1102));
    }

    @Says(at = "Promise 15", words = "Of THE DECIMAL: how many digits (what = 0), its point (1), 1 with the sign minus, else 0 (2; of inf and nan, too).")
    static void decimal() {
        FloatTexts x = new FloatTexts();
        x.exact(0, bits(-0.0625), 1);
        same("digits", x.decimal(0), 3);
        same("point", x.decimal(1), -1);
        same("sign", x.decimal(2), 1);
        x.exact(0, bits(12.5), 1);
        same("plus", x.decimal(2), 0);
        x.shortest(0, minus(0, INFINITE[0]), 0);
        same("-inf: digits, point, sign", "" + x.decimal(0) + x.decimal(1) + x.decimal(2), "001");
        x.shortest(0, INFINITE[0], 0);
        same("inf: digits, point, sign", "" + x.decimal(0) + x.decimal(1) + x.decimal(2), "000");
        x.shortest(0, -1, 0);
        same("-nan: digits, point, sign", "" + x.decimal(0) + x.decimal(1) + x.decimal(2), "001");
        x.shortest(0, NAN[0], 0);
        same("nan: digits, point, sign", "" + x.decimal(0) + x.decimal(1) + x.decimal(2), "000");
        x.shortest(0, SIGN[0], 0);
        same("-0: digits, point, sign", "" + x.decimal(0) + x.decimal(1) + x.decimal(2), "111");
    }

    @Says(at = "Promise 15", words = "IllegalArgumentException: another what.")
    static void decimalOfAnotherWhat() {
        for (int what : new int[] {-1, 3, ENDS[0], ENDS[1]}) {
            refused("what " + what, x -> x.decimal(what));
        }
    }

    @Says(at = "Promise 16", words = "Digit i of THE DECIMAL, from 0 on.")
    static void digitsOfTheDecimal() {
        FloatTexts x = new FloatTexts();
        x.exact(0, bits(-0.0625), 1);
        same("digit 0", x.digit(0), 6);
        same("digit 1", x.digit(1), 2);
        same("digit 2", x.digit(2), 5);
        x.digits(0, bits(9), 800, 0, 0);
        same("digit 0 of 9", x.digit(0), 9);
        same("digit 799", x.digit(799), 0);
        x.fixed(0, GREATEST[0], 1100, 0);
        same("digit 0 of the greatest", x.digit(0), 1);
        same("digit 308", x.digit(308), 8);
        same("digit 1408", x.digit(1408), 0);
    }

    @Says(at = "Promise 16", words = "IndexOutOfBoundsException: it has not so many.")
    static void noSuchDigit() {
        FloatTexts x = new FloatTexts();
        isOutside("a new object", x, y -> y.digit(0));
        x.exact(0, bits(-12.5), 1);
        for (int i : new int[] {3, 4, -1, ENDS[0], ENDS[1]}) {
            isOutside("digit " + i, x, y -> y.digit(i));
        }
        x.exact(0, bits(1000), 1);
        isOutside("the text has more digits than the decimal", x, y -> y.digit(1));
        x.fixed(0, GREATEST[0], 1100, 0);
        isOutside("behind the last one", x, y -> y.digit(1409));
        x.hex(0, bits(1.5));
        isOutside("hex has none", x, y -> y.digit(0));
        x.shortest(0, INFINITE[0], 0);
        isOutside("inf has none", x, y -> y.digit(0));
    }
}
