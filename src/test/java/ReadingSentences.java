/** Terms: what a TEXT that is READ must be, and where its FAULT is. */
final class ReadingSentences extends Sentences {
    private ReadingSentences() {
    }

    private static void reads(String text, double number) {
        same("'" + text + "'", read(0, 0, text), rounded(bits(number), 0));
    }

    private static void faulty(String text, int place) {
        for (int f = 0; f < 4; f++) {
            same("'" + text + "'", read(f, f, text), "fault " + place);
        }
    }

    @Says(at = "Terms", words = "THE TEXT is bytes, at most 1600.")
    static void atMost1600Bytes() {
        FloatTexts x = Due.with("1".repeat(1599));
        same("the last one", x.type('1', 1), 1600);
        same("one more", x.type('1', 1), -1);
        same("it is read", x.read(0, 0), 0);
        same("all of it", x.clear(), 1600);
        reads("0".repeat(1597) + "1e2", 100);
        for (int b = 128; b < 256; b++) {
            FloatTexts y = Due.with("1");
            same("byte " + b + " is typed", y.type(b, 1), 2);
            same("byte " + b + " is no part of a number", y.read(0, 0), -2);
        }
    }

    @Says(at = "Terms", words = "READ it must be, from its first byte to its last one")
    static void fromTheFirstByteToTheLast() {
        faulty("", 0);
        faulty(" 1", 0);
        faulty("1 ", 1);
        faulty("1\n", 1);
        faulty("1\0", 1);
        faulty("\0", 0);
        faulty("inf ", 3);
        faulty(" nan", 0);
        faulty("0x1p1 ", 5);
        faulty("1f", 1);
        faulty("1,5", 1);
        faulty("1_0", 1);
    }

    @Says(at = "Terms", words = "+ or - or nothing; then")
    static void theSignThatIsRead() {
        reads("+1.5", 1.5);
        reads("-1.5", -1.5);
        reads("1.5", 1.5);
        reads("-0x1p1", -2);
        reads("+0x1p1", 2);
        faulty("+", 1);
        faulty("-", 1);
        faulty("++1", 1);
        faulty("+-1", 1);
        faulty("--inf", 1);
        faulty("- 1", 1);
    }

    @Says(at = "Terms", words = "inf, infinity or nan (small or capital letters, mixed, too)")
    static void words() {
        for (int f = 0; f < 4; f++) {
            for (String text : new String[] {"inf", "INF", "iNf", "Inf", "infinity", "INFINITY", "InFiNiTy", "iNfInItY"}) {
                same(text, read(f, 4, text), rounded(INFINITE[f], 0));
                same("-" + text, read(f, 3, "-" + text), rounded(minus(f, INFINITE[f]), 0));
            }
            for (String text : new String[] {"nan", "NAN", "NaN", "nAn"}) {
                same(text, read(f, 0, text), rounded(NAN[f], 0));
                same("-" + text, read(f, 0, "-" + text), rounded(minus(f, NAN[f]), 0));
            }
        }
        faulty("nan0", 3);
        faulty("nan(1)", 3);
        faulty("infinity0", 8);
    }

    @Says(at = "Terms", words = "inf, infinity or nan")
    static void wordsThatAreNotWhole() {
        String word = "infinity";
        for (int length = 1; length < word.length(); length++) {
            if (length != 3) {
                faulty(word.substring(0, length), length);
            }
            faulty(word.substring(0, length) + "x", length);
            faulty("-" + word.substring(0, length) + "x", length + 1);
        }
        faulty("n", 1);
        faulty("na", 2);
        faulty("nax", 2);
        faulty("nn", 1);
        faulty("inff", 3);
        faulty("infinityy", 8);
    }

    @Says(at = "Terms", words = "or digits with one point among, before or behind them, or none, and at least one digit")
    static void digitsAndAPoint() {
        reads("12.5", 12.5);
        reads(".5", 0.5);
        reads("5.", 5);
        reads("5", 5);
        reads("-.5", -0.5);
        reads("007", 7);
        reads("0123456789.0", 123456789);
        faulty(".", 1);
        faulty("+.", 2);
        faulty("..", 1);
        faulty("..5", 1);
        faulty("1..5", 2);
        faulty("1.5.", 3);
        faulty(".5.", 2);
        faulty("1a", 1);
        faulty("a", 0);
        faulty("/", 0);
        faulty(":", 0);
        faulty("1/", 1);
        faulty("1:", 1);
    }

    @Says(at = "Terms", words = "then perhaps e or E, + or - or nothing, at least one digit; or 0x")
    static void theExponentOfTen() {
        reads("1e3", 1000);
        reads("1E3", 1000);
        reads("1e+3", 1000);
        reads("125e-3", 0.125);
        reads("125E-3", 0.125);
        reads("5.e0", 5);
        reads(".5e1", 5);
        reads("1e0003", 1000);
        reads("1e-0", 1);
        reads("1e" + "0".repeat(1590) + "3", 1000);
        faulty("e3", 0);
        faulty(".e3", 1);
        faulty("1e", 2);
        faulty("1e+", 3);
        faulty("1e-", 3);
        faulty("1e+-3", 3);
        faulty("1e3.", 3);
        faulty("1e.3", 2);
        faulty("1ee3", 2);
        faulty("1e3e", 3);
        faulty("1e3-", 3);
        faulty("1p3", 1);
        faulty("1ea", 2);
    }

    /** Any exponent has a value, also one that is too large for an int or a long. */
    @Says(at = "Terms", words = "then perhaps e or E, + or - or nothing, at least one digit")
    static void exponentsThatAreFarOff() {
        for (String far : new String[] {"5000", "99999", "2147483647", "2147483648", "4294967296", "4294967299",
                "9223372036854775808", "18446744073709551616", "18446744073709551619", "9".repeat(1500)}) {
            same("1e" + far, read(0, 0, "1e" + far), rounded(INFINITE[0], 3));
            same("-1e-" + far, read(0, 0, "-1e-" + far), rounded(SIGN[0], 5));
            same("0e" + far, read(0, 3, "0e" + far), rounded(0, 0));
            same("-0.0e-" + far, read(0, 3, "-0.0e-" + far), rounded(SIGN[0], 0));
            same("0x1p" + far, read(1, 0, "0x1p" + far), rounded(INFINITE[1], 3));
            same("-0x1p-" + far, read(1, 0, "-0x1p-" + far), rounded(SIGN[1], 5));
            same("0x0p" + far, read(1, 3, "0x0p" + far), rounded(0, 0));
        }
        reads("0." + "0".repeat(1500) + "125e1501", 1.25);
        reads("125" + "0".repeat(1500) + "e-1502", 1.25);
        reads("0x0." + "0".repeat(1500) + "18p6004", 1.5);
        reads("0x18" + "0".repeat(1500) + "p-6004", 1.5);
    }

    @Says(at = "Terms", words = "or 0x or 0X, likewise digits 0 .. 9, a .. f, A .. F with one point or none, at least one digit")
    static void hexadecimalDigitsThatAreRead() {
        reads("0x1", 1);
        reads("0X1", 1);
        reads("-0x10", -16);
        reads("0x0123456789", 0x123456789L);
        reads("0xabcdef", 0xabcdef);
        reads("0XABCDEF", 0xabcdef);
        reads("0x.8", 0.5);
        reads("0x8.", 8);
        reads("0x1.8", 1.5);
        reads("0x1e5", 0x1e5);
        faulty("0x", 2);
        faulty("0x.", 3);
        faulty("0x..", 3);
        faulty("0x1.8.", 5);
        faulty("0xg", 2);
        faulty("0xG", 2);
        faulty("0x1g", 3);
        faulty("0x`", 2);
        faulty("0x@", 2);
        faulty("0x/", 2);
        faulty("0x:", 2);
        faulty("0x-1", 2);
        faulty("0x0x1", 3);
        faulty("00x1", 2);
        faulty("1x1", 1);
        faulty("x1", 0);
        faulty(".0x1", 2);
        faulty("0xinf", 2);
    }

    @Says(at = "Terms", words = "then perhaps p or P, + or - or nothing, at least one decimal digit: the exponent of 2.")
    static void theExponentOfTwoThatIsRead() {
        reads("0x1p4", 16);
        reads("0x1P4", 16);
        reads("0x1p+4", 16);
        reads("0x1p-4", 0.0625);
        reads("0x1p10", 1024);
        reads("0x.1p4", 1);
        reads("0x8.p0", 8);
        reads("0xep1", 28);
        faulty("0xp1", 2);
        faulty("0x.p1", 3);
        faulty("0x1p", 4);
        faulty("0x1p+", 5);
        faulty("0x1p-", 5);
        faulty("0x1p+-1", 5);
        faulty("0x1pa", 4);
        faulty("0x1p1a", 5);
        faulty("0x1p1.", 5);
        faulty("0x1p1p", 5);
        faulty("0x1e+1", 4);
    }

    @Says(at = "Terms", words = "It is ROUNDED; inf and nan (FRACTION 2^(P-2)) have FLAGS 0; so has 0; their sign is that told.")
    static void infNanAndZero() {
        for (int f = 0; f < 4; f++) {
            for (int way = 0; way < 5; way++) {
                same("inf", read(f, way, "inf"), rounded(INFINITE[f], 0));
                same("+inf", read(f, way, "+inf"), rounded(INFINITE[f], 0));
                same("-inf", read(f, way, "-inf"), rounded(minus(f, INFINITE[f]), 0));
                same("nan", read(f, way, "nan"), rounded(NAN[f], 0));
                same("-nan", read(f, way, "-nan"), rounded(minus(f, NAN[f]), 0));
                same("0", read(f, way, "0"), rounded(0, 0));
                same("+0.0e9", read(f, way, "+0.0e9"), rounded(0, 0));
                same("-0", read(f, way, "-0"), rounded(SIGN[f], 0));
                same("-.0e-9", read(f, way, "-.0e-9"), rounded(SIGN[f], 0));
                same("-0x0.0p9", read(f, way, "-0x0.0p9"), rounded(SIGN[f], 0));
            }
        }
    }

    @Says(at = "Terms", words = "It is ROUNDED")
    static void decimalsAndHexadecimalsAreRounded() {
        same("0.1 of 0", read(0, 0, "0.1"), rounded(bits(0.1), 1));
        same("0.1 of 1", read(1, 0, "0.1"), rounded(0x3dcccccdL, 1));
        same("0.1 of 2", read(2, 0, "0.1"), rounded(0x2e66, 1));
        same("0.1 of 3", read(3, 0, "0.1"), rounded(0x3dcd, 1));
        same("a decimal just between two", read(0, 0, "9007199254740993"), rounded(bits(9007199254740992.0), 1));
        same("a hair more", read(0, 0, "9007199254740993." + "0".repeat(1500) + "1"), rounded(bits(9007199254740994.0), 1));
        same("a hair less", read(0, 1, "9007199254740992." + "9".repeat(1500)), rounded(bits(9007199254740992.0), 1));
        same("a hexadecimal one", read(3, 0, "0x1.01"), rounded(ONE[3], 1));
        same("a hair more", read(3, 0, "0x1.01" + "0".repeat(1500) + "1"), rounded(ONE[3] + 1, 1));
        same("a hair less", read(3, 1, "0x1.00" + "f".repeat(1500)), rounded(ONE[3], 1));
    }

    /** However far behind a digit is, it makes another number. */
    @Says(at = "Terms", words = "It is ROUNDED")
    static void everyDigitCounts() {
        String middle = "9007199254740993.";
        for (int zeros = 0; zeros < 1582; zeros++) {
            same(zeros + " digits 0 before a 1", read(0, 0, middle + "0".repeat(zeros) + "1"), rounded(bits(9007199254740994.0), 1));
        }
        // 1 becomes another number by ways 3 and 4 alone, with the hair on its side
        for (int zeros = 0; zeros < 1590; zeros += 53) {
            same("a hair above 1", read(0, 3, "1." + "0".repeat(zeros + 16) + "1"), rounded(ONE[0] + 1, 1));
            same("a hair below 1", read(0, 4, "0." + "9".repeat(zeros + 17)), rounded(ONE[0] - 1, 1));
        }
        String whole = java.math.BigInteger.TWO.pow(1000).toString();
        for (int zeros = 0; zeros < 1290; zeros += 43) {
            same("a hair above 2^1000", read(0, 3, whole + "." + "0".repeat(zeros) + "1"), rounded(bits(0x1p1000) + 1, 1));
            same("no hair", read(0, 3, whole + "." + "0".repeat(zeros)), rounded(bits(0x1p1000), 0));
        }
    }

    /** The middles as decimals with all their digits, also of the least numbers, and with a digit more. */
    @Says(at = "Terms", words = "It is ROUNDED")
    static void middlesAreReadRightly() {
        for (int f = 0; f < 4; f++) {
            for (long size : new long[] {0, 1, 2, GREATEST_SUBNORMAL[f], LEAST_NORMAL[f], ONE[f], ONE[f] + 1, GREATEST[f]}) {
                FloatTexts x = new FloatTexts();
                x.middle(f, size, 1);
                x.pass();
                String what = "the middle above " + Due.hexOf(f, size);
                became(what, x, f, 0, size + (size & 1));
                became(what, x, f, 1, size + 1);
                became(what, x, f, 2, size);
                // behind a whole number a point comes first
                x.type(size == GREATEST[f] ? 0x312e : 0x31, size == GREATEST[f] ? 2 : 1);
                became(what + " and a digit more", x, f, 0, size + 1);
            }
        }
    }

    private static void became(String what, FloatTexts x, int f, int way, long pattern) {
        int tinyOrNot = pattern < LEAST_NORMAL[f] ? 5 : 1;
        same(what + " is read", x.read(f, way), 0);
        same(what + " by " + way, rounded(x), rounded(pattern, pattern == INFINITE[f] ? 3 : tinyOrNot));
    }

    @Says(at = "Terms", words = "A FAULT is the first byte that can't be there, however the text goes on")
    static void theFirstByteThatCannotBeThere() {
        faulty("x", 0);
        faulty("1x?", 1);
        faulty("1.5e+x9", 5);
        faulty("infinite", 7);
        faulty("-infinitx", 8);
        faulty("0x1.2.3", 5);
        faulty("0x1.8q1", 5);
        faulty("1".repeat(1599) + "x", 1599);
        // a byte that the rest alone makes wrong is none
        faulty("1e+", 3);
        faulty("infin", 5);
    }

    @Says(at = "Terms", words = "however the text goes on; or the end.")
    static void theEnd() {
        faulty("", 0);
        faulty("-", 1);
        faulty(".", 1);
        faulty("0x", 2);
        faulty("-0x.", 4);
        faulty("1e", 2);
        faulty("na", 2);
        faulty("infinit", 7);
        faulty("1".repeat(1599) + "e", 1600);
    }
}
