/** Terms: how a number is ROUNDED to a format, OVERFLOW and the FLAGS. */
final class RoundingSentences extends Sentences {
    /** The middle between the greatest number of a format and 2^(E+1). */
    private static final String[] TOP_MIDDLE = {
        "0x1.fffffffffffff8p1023", "0x1.ffffffp127", "0x1.ffep15", "0x1.ffp127"
    };
    private static final String[] BELOW_TOP_MIDDLE = {
        "0x1.fffffffffffff7ffffffffffp1023", "0x1.fffffeffffffffffffp127", "0x1.ffdfffffffffffffp15", "0x1.fefffffffffffffp127"
    };
    /** 2^(E+1), and a little less. */
    private static final String[] TOP = {"0x1p1024", "0x1p128", "0x1p16", "0x1p128"};
    private static final String[] BELOW_TOP = {
        "0x1.ffffffffffffffffffffp1023", "0x1.ffffffffffffffffffffp127", "0x1.ffffffffffffffffffffp15", "0x1.ffffffffffffffffffffp127"
    };
    /** The middles between 1 and the next number, and between that and the one behind it. */
    private static final String[] MIDDLE = {"0x1.00000000000008", "0x1.000001", "0x1.002", "0x1.01"};
    private static final String[] NEXT_MIDDLE = {"0x1.00000000000018", "0x1.000003", "0x1.006", "0x1.03"};
    /** The least number of a format, half of it, and half of it three times. */
    private static final String[] LEAST = {"0x1p-1074", "0x1p-149", "0x1p-24", "0x1p-133"};
    private static final String[] HALF_LEAST = {"0x1p-1075", "0x1p-150", "0x1p-25", "0x1p-134"};
    private static final String[] THREE_HALVES = {"0x3p-1075", "0x3p-150", "0x3p-25", "0x3p-134"};
    /** The middle between the greatest subnormal number and the least normal one. */
    private static final String[] BELOW_NORMAL = {
        "0x1.fffffffffffffp-1023", "0x1.fffffep-127", "0x1.ffcp-15", "0x1.fep-127"
    };

    private RoundingSentences() {
    }

    private static void becomes(int f, int way, String text, long pattern, int flags) {
        same(text + " to " + f + " by " + way, read(f, way, text), rounded(pattern, flags));
    }

    private static void minusBecomes(int f, int way, String text, long pattern, int flags) {
        becomes(f, way, "-" + text, minus(f, pattern), flags);
    }

    /** The size that a number of each sign becomes, by one way. */
    private static void bothBecome(int f, int way, String text, long pattern, int flags) {
        becomes(f, way, text, pattern, flags);
        minusBecomes(f, way, text, pattern, flags);
    }

    @Says(at = "Terms", words = "ROUNDED to a format by a WAY a number other than 0 becomes the number itself if it is one of the format")
    static void aNumberOfTheFormatStays() {
        String[] greatest = {"0x1.fffffffffffffp1023", "0x1.fffffep127", "0x1.ffcp15", "0x1.fep127"};
        String[] greatestSubnormal = {"0x1.ffffffffffffep-1023", "0x1.fffffcp-127", "0x1.ff8p-15", "0x1.fcp-127"};
        String[] leastNormal = {"0x1p-1022", "0x1p-126", "0x1p-14", "0x1p-126"};
        for (int f = 0; f < 4; f++) {
            for (int way = 0; way < 5; way++) {
                bothBecome(f, way, "1", ONE[f], 0);
                bothBecome(f, way, greatest[f], GREATEST[f], 0);
                bothBecome(f, way, LEAST[f], 1, 0);
                bothBecome(f, way, greatestSubnormal[f], GREATEST_SUBNORMAL[f], 0);
                bothBecome(f, way, leastNormal[f], LEAST_NORMAL[f], 0);
            }
        }
    }

    @Says(at = "Terms", words = "by way 0 the nearer one")
    static void wayZeroTheNearer() {
        bothBecome(2, 0, "2048.999999", 0x6800, 1);
        bothBecome(2, 0, "2049.000001", 0x6801, 1);
        for (int f = 0; f < 4; f++) {
            bothBecome(f, 0, MIDDLE[f] + "00000000000001", ONE[f] + 1, 1);
            bothBecome(f, 0, HALF_LEAST[f].replace("p", ".00000000000000000001p"), 1, 5);
            bothBecome(f, 0, BELOW_NORMAL[f].replace("p", "0000000000001p"), LEAST_NORMAL[f], 1);
        }
    }

    @Says(at = "Terms", words = "of two as near the one whose FRACTION is even")
    static void wayZeroBetweenTwo() {
        for (int f = 0; f < 4; f++) {
            bothBecome(f, 0, MIDDLE[f], ONE[f], 1);
            bothBecome(f, 0, NEXT_MIDDLE[f], ONE[f] + 2, 1);
            bothBecome(f, 0, HALF_LEAST[f], 0, 5);
            bothBecome(f, 0, THREE_HALVES[f], 2, 5);
            bothBecome(f, 0, BELOW_NORMAL[f], LEAST_NORMAL[f], 1);
        }
        // from the last fraction before a power of 2 to that power, whose fraction is 0
        bothBecome(2, 0, "4095", 0x6c00, 1);
        bothBecome(2, 0, "2047.5", 0x6800, 1);
    }

    @Says(at = "Terms", words = "1 the nearer one, of two as near the greater size")
    static void wayOne() {
        for (int f = 0; f < 4; f++) {
            bothBecome(f, 1, MIDDLE[f], ONE[f] + 1, 1);
            bothBecome(f, 1, NEXT_MIDDLE[f], ONE[f] + 2, 1);
            bothBecome(f, 1, HALF_LEAST[f], 1, 5);
            bothBecome(f, 1, THREE_HALVES[f], 2, 5);
            bothBecome(f, 1, BELOW_NORMAL[f], LEAST_NORMAL[f], 1);
        }
        bothBecome(2, 1, "2048.999999", 0x6800, 1);
        bothBecome(2, 1, "2049.000001", 0x6801, 1);
        bothBecome(2, 1, "0x.ffffffffffffffffp-25", 0, 5);
    }

    @Says(at = "Terms", words = "2 the lesser size")
    static void wayTwo() {
        bothBecome(2, 2, "2049.999999", 0x6800, 1);
        for (int f = 0; f < 4; f++) {
            bothBecome(f, 2, MIDDLE[f], ONE[f], 1);
            bothBecome(f, 2, THREE_HALVES[f], 1, 5);
            bothBecome(f, 2, BELOW_NORMAL[f], GREATEST_SUBNORMAL[f], 5);
            bothBecome(f, 2, HALF_LEAST[f], 0, 5);
        }
    }

    @Says(at = "Terms", words = "3 the greater number")
    static void wayThree() {
        becomes(2, 3, "2048.000001", 0x6801, 1);
        minusBecomes(2, 3, "2049.999999", 0x6800, 1);
        for (int f = 0; f < 4; f++) {
            becomes(f, 3, "1e-4000", 1, 5);
            minusBecomes(f, 3, "1e-4000", 0, 5);
            becomes(f, 3, "0x1.00000000000000000001", ONE[f] + 1, 1);
            minusBecomes(f, 3, "0x1.00000000000000000001", ONE[f], 1);
        }
    }

    @Says(at = "Terms", words = "4 the lesser number")
    static void wayFour() {
        becomes(2, 4, "2049.999999", 0x6800, 1);
        minusBecomes(2, 4, "2048.000001", 0x6801, 1);
        for (int f = 0; f < 4; f++) {
            becomes(f, 4, "1e-4000", 0, 5);
            minusBecomes(f, 4, "1e-4000", 1, 5);
            becomes(f, 4, "0x1.00000000000000000001", ONE[f], 1);
            minusBecomes(f, 4, "0x1.00000000000000000001", ONE[f] + 1, 1);
        }
    }

    @Says(at = "Terms", words = "of the two that are next to its size in the format (as if exponents had no greatest one)")
    static void aboveTheGreatestOne() {
        for (int f = 0; f < 4; f++) {
            bothBecome(f, 0, BELOW_TOP_MIDDLE[f], GREATEST[f], 1);
            bothBecome(f, 1, BELOW_TOP_MIDDLE[f], GREATEST[f], 1);
            bothBecome(f, 0, TOP_MIDDLE[f], INFINITE[f], 3);
            bothBecome(f, 1, TOP_MIDDLE[f], INFINITE[f], 3);
            bothBecome(f, 2, BELOW_TOP[f], GREATEST[f], 1);
            becomes(f, 3, BELOW_TOP_MIDDLE[f], INFINITE[f], 3);
            minusBecomes(f, 3, BELOW_TOP[f], GREATEST[f], 1);
            becomes(f, 4, BELOW_TOP[f], GREATEST[f], 1);
            minusBecomes(f, 4, BELOW_TOP_MIDDLE[f], INFINITE[f], 3);
        }
    }

    @Says(at = "Terms", words = "If that size is 2^(E+1) or more, it is OVERFLOW")
    static void justTwoToTheNextExponent() {
        for (int f = 0; f < 4; f++) {
            for (int way = 0; way < 5; way++) {
                FloatTexts plus = Due.with(TOP[f]);
                plus.read(f, way);
                same("2^(E+1) of " + f + " by " + way, plus.flags(), 3);
                FloatTexts minus = Due.with("-" + TOP[f]);
                minus.read(f, way);
                same("-2^(E+1) of " + f + " by " + way, minus.flags(), 3);
            }
        }
    }

    @Says(at = "Terms", words = "INFINITE by ways 0 and 1, by 3 if it is above 0, by 4 if it is below 0; otherwise the greatest size of the format.")
    static void whatOverflowBecomes() {
        for (int f = 0; f < 4; f++) {
            for (String text : new String[] {TOP[f], "0x1p99999", "1e400", "9e99999999999999999999"}) {
                bothBecome(f, 0, text, INFINITE[f], 3);
                bothBecome(f, 1, text, INFINITE[f], 3);
                bothBecome(f, 2, text, GREATEST[f], 3);
                becomes(f, 3, text, INFINITE[f], 3);
                minusBecomes(f, 3, text, GREATEST[f], 3);
                becomes(f, 4, text, GREATEST[f], 3);
                minusBecomes(f, 4, text, INFINITE[f], 3);
            }
        }
    }

    @Says(at = "Terms", words = "The sign stays (also of what becomes 0).")
    static void theSignStays() {
        for (int f = 0; f < 4; f++) {
            for (int way = 0; way < 4; way++) {
                minusBecomes(f, way, "1e-4000", 0, 5);
                same("nearest", new FloatTexts().nearest(f, -1, -5000, way), SIGN[f]);
                same("power", new FloatTexts().power(f, -1, -5000, way), SIGN[f]);
            }
            becomes(f, 4, "1e-4000", 0, 5);
            minusBecomes(f, 2, "1e4000", GREATEST[f], 3);
        }
        same("convert", new FloatTexts().convert(0, minus(0, 1), 1, 0), SIGN[1]);
    }

    @Says(at = "Terms", words = "FLAGS: 1 INEXACT: it is another number then")
    static void inexact() {
        becomes(2, 0, "2048", 0x6800, 0);
        becomes(2, 0, "2048.00000000000000000000000000000000000000000000001", 0x6800, 1);
        becomes(0, 2, "1." + "0".repeat(1590) + "1", ONE[0], 1);
        becomes(0, 2, "1." + "0".repeat(1590), ONE[0], 0);
        becomes(0, 0, "0.1", 0x3fb999999999999aL, 1);
        becomes(0, 0, "0.5", 0x3fe0000000000000L, 0);
    }

    @Says(at = "Terms", words = "2 OVERFLOW")
    static void overflowIsInexactToo() {
        for (int f = 0; f < 4; f++) {
            for (int way = 0; way < 5; way++) {
                FloatTexts x = new FloatTexts();
                x.power(f, 1, 2000, way);
                same("flags of 2^2000 by " + way, x.flags(), 3);
                x.power(f, -1, 2000, way);
                same("flags of -2^2000 by " + way, x.flags(), 3);
            }
            bothBecome(f, 2, BELOW_TOP[f], GREATEST[f], 1);
        }
    }

    @Says(at = "Terms", words = "4 TINY: INEXACT, and ZERO or SUBNORMAL; together.")
    static void tiny() {
        for (int f = 0; f < 4; f++) {
            bothBecome(f, 0, LEAST[f], 1, 0);
            bothBecome(f, 0, HALF_LEAST[f], 0, 5);
            bothBecome(f, 1, HALF_LEAST[f], 1, 5);
            bothBecome(f, 2, BELOW_NORMAL[f], GREATEST_SUBNORMAL[f], 5);
            bothBecome(f, 1, BELOW_NORMAL[f], LEAST_NORMAL[f], 1);
            becomes(f, 3, BELOW_NORMAL[f], LEAST_NORMAL[f], 1);
            minusBecomes(f, 3, BELOW_NORMAL[f], GREATEST_SUBNORMAL[f], 5);
        }
    }
}
