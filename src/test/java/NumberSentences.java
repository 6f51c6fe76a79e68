/** Promises 17 to 26: nearest, power, convert, next, steps, compare, order, kind, reads, holds. */
final class NumberSentences extends Sentences {
    /** The exponent of 2 of the least number of each format. */
    private static final int[] LEAST_EXPONENT = {-1074, -149, -24, -133};

    private NumberSentences() {
    }

    private static String nearest(int format, long m, int e, int way) {
        return kept(x -> x.nearest(format, m, e, way));
    }

    private static String power(int format, long m, int e, int way) {
        return kept(x -> x.power(format, m, e, way));
    }

    private static String convert(int format, long bits, int to, int way) {
        return kept(x -> x.convert(format, bits, to, way));
    }

    /** What a call answers and leaves as THE RESULT, on an object that had another one. */
    private static String kept(Due.Call call) {
        FloatTexts x = StateSentences.filled();
        long answer = call.on(x);
        same("the answer is the result", answer, x.result());
        return rounded(x);
    }

    @Says(at = "Promise 17", words = "m * 10^e ROUNDED (0 is 0 with the sign plus, FLAGS 0): THE RESULT.")
    static void nearest() {
        same("1e0", nearest(0, 1, 0, 0), rounded(bits(1), 0));
        same("-125e-2", nearest(0, -125, -2, 0), rounded(bits(-1.25), 0));
        same("1e-1", nearest(1, 1, -1, 0), "3dcccccd 1");
        same("the greatest long", nearest(0, Long.MAX_VALUE, 0, 0), rounded(bits(0x1p63), 1));
        same("the greatest long by way 2", nearest(0, Long.MAX_VALUE, 0, 2), rounded(bits(0x1p63) - 1, 1));
        same("the least long", nearest(0, Long.MIN_VALUE, 0, 0), rounded(bits(-0x1p63), 0));
        same("the least long of 2", nearest(2, Long.MIN_VALUE, 0, 4), "fc00 3");
        same("the least long of 3 by way 2", nearest(3, Long.MIN_VALUE, 0, 2), "df00 0");
        same("65519", nearest(2, 65519, 0, 0), "7bff 1");
        same("65520", nearest(2, 65520, 0, 0), "7c00 3");
        same("25e-325", nearest(0, 25, -325, 0), "1 5");
        same("24e-325", nearest(0, 24, -325, 0), "0 5");
        same("1e308", nearest(0, 1, 308, 0), rounded(bits(1e308), 1));
        same("1e309", nearest(0, 1, 309, 0), rounded(INFINITE[0], 3));
        same("1e18 * 1e290", nearest(0, 1000000000000000000L, 290, 0), rounded(bits(1e308), 1));
        same("1e18 * 1e291", nearest(0, 1000000000000000000L, 291, 2), rounded(GREATEST[0], 3));
        same("1e-323", nearest(0, 1, -323, 0), "2 5");
        same("1e18 * 1e-341", nearest(0, 1000000000000000000L, -341, 0), "2 5");
        for (int f = 0; f < 4; f++) {
            for (int e : new int[] {0, -5000, 5000}) {
                for (int way = 0; way < 5; way++) {
                    same("0", nearest(f, 0, e, way), "0 0");
                }
            }
        }
    }

    /** From 1 digit to 19. */
    @Says(at = "Promise 17", words = "m * 10^e ROUNDED")
    static void nearestOfAnyCountOfDigits() {
        long ten = 1;
        for (int count = 1; count < 20; count++) {
            same("1 with zeros, " + count, nearest(0, ten, 0, 0), rounded(bits(ten), 0));
            same("minus, " + count, nearest(0, -ten, 0, 0), rounded(bits(-ten), 0));
            same("back to 1, " + count, nearest(2, ten, 1 - count, 0), "3c00 0");
            same("one more, " + count, nearest(0, ten + 1, 0, 0), rounded(bits(ten + 1), count > 16 ? 1 : 0));
            if (count < 19) {
                ten *= 10;
                same("nines, " + count, nearest(0, ten - 1, 0, 0), rounded(bits(ten - 1), count > 15 ? 1 : 0));
            }
        }
    }

    @Says(at = "Promise 17", words = "IllegalArgumentException, too: e is not -5000 .. 5000.")
    static void nearestOfWrongExponents() {
        for (int e : new int[] {-5001, 5001, ENDS[0], ENDS[1]}) {
            refused("e " + e, x -> x.nearest(0, 1, e, 0));
            refused("0, e " + e, x -> x.nearest(0, 0, e, 0));
        }
        same("e 5000", nearest(0, 1, 5000, 0), rounded(INFINITE[0], 3));
        same("e 5000 by way 2", nearest(0, -1, 5000, 2), rounded(minus(0, GREATEST[0]), 3));
        same("e -5000", nearest(0, 1, -5000, 0), "0 5");
        same("e -5000 by way 3", nearest(0, 1, -5000, 3), "1 5");
        same("e -5000, the greatest long", nearest(0, Long.MAX_VALUE, -5000, 1), "0 5");
    }

    @Says(at = "Promise 18", words = "m * 2^e likewise (any e).")
    static void power() {
        same("3 * 2^-1", power(0, 3, -1, 0), rounded(bits(1.5), 0));
        same("-3 * 2^-1", power(0, -3, -1, 0), rounded(bits(-1.5), 0));
        same("-2049 * 2^0", power(2, -2049, 0, 3), "e800 1");
        same("2049 * 2^0", power(2, 2049, 0, 0), "6800 1");
        same("2^-1074", power(0, 1, -1074, 0), "1 0");
        same("2^-1075", power(0, 1, -1075, 0), "0 5");
        same("3 * 2^-1075", power(0, 3, -1075, 0), "2 5");
        same("2^1023", power(0, 1, 1023, 0), rounded(bits(0x1p1023), 0));
        same("2^1024", power(0, 1, 1024, 0), rounded(INFINITE[0], 3));
        same("2^1024 by way 2", power(0, 1, 1024, 2), rounded(GREATEST[0], 3));
        same("the least long to 2^1023", power(0, Long.MIN_VALUE, 960, 0), rounded(bits(-0x1p1023), 0));
        same("the least long to 2^1024", power(0, Long.MIN_VALUE, 961, 0), rounded(minus(0, INFINITE[0]), 3));
        same("the least long to 2^-1074", power(0, Long.MIN_VALUE, -1137, 0), rounded(SIGN[0] | 1, 0));
        same("the least long to 2^-1075", power(0, Long.MIN_VALUE, -1138, 0), rounded(SIGN[0], 5));
        same("the least long to 2^-1075 by way 1", power(0, Long.MIN_VALUE, -1138, 1), rounded(SIGN[0] | 1, 5));
        same("the greatest long to below 2^-1075", power(0, Long.MAX_VALUE, -1138, 1), "0 5");
        same("the greatest long", power(0, Long.MAX_VALUE, 0, 2), rounded(bits(0x1p63) - 1, 1));
        same("-1 * 2^16 of 2", power(2, -1, 16, 3), "fbff 3");
    }

    @Says(at = "Promise 18", words = "(any e)")
    static void powerOfAnyExponent() {
        for (int f = 0; f < 4; f++) {
            same("the greatest e", power(f, 1, Integer.MAX_VALUE, 0), rounded(INFINITE[f], 3));
            same("the greatest e, all bits", power(f, Long.MAX_VALUE, Integer.MAX_VALUE, 4), rounded(GREATEST[f], 3));
            same("the least e", power(f, 1, Integer.MIN_VALUE, 0), "0 5");
            same("the least e, all bits", power(f, Long.MIN_VALUE, Integer.MIN_VALUE, 4), rounded(SIGN[f] | 1, 5));
            same("0 with the greatest e", power(f, 0, Integer.MAX_VALUE, 3), "0 0");
            same("0 with the least e", power(f, 0, Integer.MIN_VALUE, 4), "0 0");
            int least = LEAST_EXPONENT[f];
            same("half of the least number", power(f, 1, least - 1, 1), "1 5");
            same("a little less than the least number", power(f, Long.MAX_VALUE, least - 63, 1), "1 5");
            same("a little less than half of it", power(f, Long.MAX_VALUE, least - 64, 1), "0 5");
            for (int e = least - 140; e < least - 1; e++) {
                same("less than half of it, e " + e, power(f, 1, e, 1), "0 5");
                same("less than half of it, e " + (e - 63), power(f, Long.MAX_VALUE, e - 63, 1), "0 5");
            }
        }
    }

    @Says(at = "Promise 19", words = "A number of one format ROUNDED to another one")
    static void convert() {
        same("1 + 2^-11 to 2", convert(0, bits(1 + 0x1p-11), 2, 0), "3c00 1");
        same("1 + 2^-11 to 2 by way 1", convert(0, bits(1 + 0x1p-11), 2, 1), "3c01 1");
        same("the greatest of 0 to 1", convert(0, GREATEST[0], 1, 0), rounded(INFINITE[1], 3));
        same("the greatest of 0 to 1 by way 2", convert(0, GREATEST[0], 1, 2), rounded(GREATEST[1], 3));
        same("the least of 0 to 1", convert(0, minus(0, 1), 1, 0), rounded(SIGN[1], 5));
        same("the least of 0 to 1 by way 4", convert(0, minus(0, 1), 1, 4), rounded(SIGN[1] | 1, 5));
        same("the least of 1 to 0", convert(1, 1, 0, 0), rounded(bits(0x1p-149), 0));
        same("the least of 3 to 1", convert(3, 1, 1, 0), "10000 0");
        same("the greatest of 3 to 2", convert(3, GREATEST[3], 2, 4), rounded(GREATEST[2], 3));
        same("the greatest of 2 to 3", convert(2, GREATEST[2], 3, 0), "4780 1");
        same("to its own format", convert(1, minus(1, GREATEST_SUBNORMAL[1]), 1, 3), rounded(minus(1, GREATEST_SUBNORMAL[1]), 0));
    }

    @Says(at = "Promise 19", words = "(0 and INFINITE stay what they are, FLAGS 0)")
    static void convertZeroAndInfinite() {
        for (int f = 0; f < 4; f++) {
            for (int to = 0; to < 4; to++) {
                for (int way = 0; way < 5; way++) {
                    same("0", convert(f, 0, to, way), "0 0");
                    same("-0", convert(f, SIGN[f], to, way), rounded(SIGN[to], 0));
                    same("inf", convert(f, INFINITE[f], to, way), rounded(INFINITE[to], 0));
                    same("-inf", convert(f, minus(f, INFINITE[f]), to, way), rounded(minus(to, INFINITE[to]), 0));
                }
            }
        }
    }

    @Says(at = "Promise 19", words = "A NAN becomes that with its sign whose FRACTION has its highest bit set")
    static void convertNan() {
        for (int f = 0; f < 4; f++) {
            for (int to = 0; to < 4; to++) {
                same("the highest bit alone", convert(f, NAN[f], to, 0), rounded(NAN[to], 0));
                same("with minus", convert(f, minus(f, NAN[f]), to, 4), rounded(minus(to, NAN[to]), 0));
            }
            same("the highest bit is set in its own format", convert(f, INFINITE[f] + 1, f, 0), rounded(NAN[f] + 1, 0));
            same("and stays", convert(f, NAN[f] + 1, f, 0), rounded(NAN[f] + 1, 0));
        }
    }

    @Says(at = "Promise 19", words = "and behind it, from the left, those that are behind the highest one of its own "
        + "(as many as there is room for, then 0), FLAGS 0.")
    static void convertNanBits() {
        same("the second bit, 0 to 1", convert(0, 0x7ff4000000000000L, 1, 0), "7fe00000 0");
        same("the second bit, 0 to 2", convert(0, 0xfff4000000000000L, 2, 0), "ff00 0");
        same("the second bit, 0 to 3", convert(0, 0x7ffc000000000000L, 3, 0), "7fe0 0");
        same("no room for the last bit, 0 to 1", convert(0, 0x7ff0000000000001L, 1, 3), "7fc00000 0");
        same("the last bit with room, 0 to 1", convert(0, 0x7ff0000020000000L, 1, 3), "7fc00001 0");
        same("the first without room, 0 to 1", convert(0, 0x7ff0000010000000L, 1, 3), "7fc00000 0");
        same("all bits, 0 to 3", convert(0, -1L, 3, 0), "ffff 0");
        same("all bits, 3 to 0", convert(3, 0x7fff, 0, 0), "7fffe00000000000 0");
        same("the last bit, 3 to 0", convert(3, 0xff81, 0, 0), "fff8200000000000 0");
        same("the last bit, 3 to 2", convert(3, 0x7f81, 2, 0), "7e08 0");
        same("the last bit, 2 to 3", convert(2, 0x7c01, 3, 0), "7fc0 0");
        same("the last with room, 2 to 3", convert(2, 0x7c08, 3, 0), "7fc1 0");
        same("all bits, 1 to 0", convert(1, 0xffffffffL, 0, 0), "ffffffffe0000000 0");
    }

    @Says(at = "Promise 19", words = "IllegalArgumentException: also of the format to.")
    static void convertToNoFormat() {
        for (int to : new int[] {-1, 4, ENDS[0], ENDS[1]}) {
            for (long pattern : new long[] {0, 1, SIGN[0], INFINITE[0], -1}) {
                refused("to " + to, x -> x.convert(0, pattern, to, 0));
            }
        }
        refused("a pattern of the other format alone", x -> x.convert(1, 1L << 32, 0, 0));
    }

    @Says(at = "Promise 20", words = "The pattern of the next greater number (up), or the next lesser one")
    static void next() {
        FloatTexts x = new FloatTexts();
        for (int f = 0; f < 4; f++) {
            same("up from 1", x.next(f, ONE[f], true), ONE[f] + 1);
            same("down from 1", x.next(f, ONE[f], false), ONE[f] - 1);
            same("up from -1", x.next(f, minus(f, ONE[f]), true), minus(f, ONE[f] - 1));
            same("down from -1", x.next(f, minus(f, ONE[f]), false), minus(f, ONE[f] + 1));
            same("up from the greatest subnormal", x.next(f, GREATEST_SUBNORMAL[f], true), LEAST_NORMAL[f]);
            same("down from the least normal", x.next(f, LEAST_NORMAL[f], false), GREATEST_SUBNORMAL[f]);
            same("minus, up from the least normal", x.next(f, minus(f, LEAST_NORMAL[f]), true), minus(f, GREATEST_SUBNORMAL[f]));
        }
    }

    @Says(at = "Promise 20", words = "from either ZERO the SUBNORMAL of FRACTION 1")
    static void nextOfZero() {
        FloatTexts x = new FloatTexts();
        for (int f = 0; f < 4; f++) {
            same("up from 0", x.next(f, 0, true), 1);
            same("up from -0", x.next(f, SIGN[f], true), 1);
            same("down from 0", x.next(f, 0, false), minus(f, 1));
            same("down from -0", x.next(f, SIGN[f], false), minus(f, 1));
        }
    }

    @Says(at = "Promise 20", words = "from a SUBNORMAL to 0 that with the same sign")
    static void nextToZero() {
        FloatTexts x = new FloatTexts();
        for (int f = 0; f < 4; f++) {
            same("down from the least", x.next(f, 1, false), 0);
            same("up from the least with minus", x.next(f, minus(f, 1), true), SIGN[f]);
        }
    }

    @Says(at = "Promise 20", words = "from the greatest one INFINITE, from that itself (and back the greatest one)")
    static void nextAboutInfinite() {
        FloatTexts x = new FloatTexts();
        for (int f = 0; f < 4; f++) {
            same("up from the greatest", x.next(f, GREATEST[f], true), INFINITE[f]);
            same("up from inf", x.next(f, INFINITE[f], true), INFINITE[f]);
            same("down from inf", x.next(f, INFINITE[f], false), GREATEST[f]);
            same("down from the least of all", x.next(f, minus(f, GREATEST[f]), false), minus(f, INFINITE[f]));
            same("down from -inf", x.next(f, minus(f, INFINITE[f]), false), minus(f, INFINITE[f]));
            same("up from -inf", x.next(f, minus(f, INFINITE[f]), true), minus(f, GREATEST[f]));
        }
    }

    @Says(at = "Promise 20", words = "of a NAN itself.")
    static void nextOfNan() {
        FloatTexts x = new FloatTexts();
        for (int f = 0; f < 4; f++) {
            for (long nan : new long[] {INFINITE[f] + 1, NAN[f], SIGN[f] - 1}) {
                same("up", x.next(f, nan, true), nan);
                same("down", x.next(f, nan, false), nan);
                same("up, minus", x.next(f, minus(f, nan), true), minus(f, nan));
                same("down, minus", x.next(f, minus(f, nan), false), minus(f, nan));
            }
        }
    }

    @Says(at = "Promise 21", words = "How many times next() leads from a to b (below 0: downwards)")
    static void steps() {
        FloatTexts x = new FloatTexts();
        for (int f = 0; f < 4; f++) {
            same("none", x.steps(f, ONE[f], ONE[f]), 0);
            same("one up", x.steps(f, ONE[f], ONE[f] + 1), 1);
            same("one down", x.steps(f, ONE[f], ONE[f] - 1), -1);
            same("one down, minus", x.steps(f, minus(f, ONE[f]), minus(f, ONE[f] + 1)), -1);
            same("one up, minus", x.steps(f, minus(f, ONE[f] + 1), minus(f, ONE[f])), 1);
            same("to inf", x.steps(f, GREATEST[f], INFINITE[f]), 1);
            same("inf to inf", x.steps(f, INFINITE[f], INFINITE[f]), 0);
            same("to normal ones", x.steps(f, GREATEST_SUBNORMAL[f], LEAST_NORMAL[f]), 1);
            same("1 to 2", x.steps(f, ONE[f], TWO[f]), LEAST_NORMAL[f]);
        }
        same("from end to end of 2", x.steps(2, 0xfc00, 0x7c00), 2 * 0x7c00);
        same("and back", x.steps(2, 0x7c00, 0xfc00), -2 * 0x7c00);
        same("from end to end of 1", x.steps(1, 0xff800000L, 0x7f800000L), 2 * 0x7f800000L);
        same("and back", x.steps(1, 0x7f800000L, 0xff800000L), -2 * 0x7f800000L);
    }

    @Says(at = "Promise 21", words = "both ZEROS being one")
    static void stepsAcrossZero() {
        FloatTexts x = new FloatTexts();
        for (int f = 0; f < 4; f++) {
            same("-0 to 0", x.steps(f, SIGN[f], 0), 0);
            same("0 to -0", x.steps(f, 0, SIGN[f]), 0);
            same("-0 to the least", x.steps(f, SIGN[f], 1), 1);
            same("0 to the least with minus", x.steps(f, 0, minus(f, 1)), -1);
            same("across", x.steps(f, minus(f, 1), 1), 2);
            same("across and back", x.steps(f, 2, minus(f, 1)), -3);
        }
    }

    @Says(at = "Promise 21", words = "what is no long any more: the nearest one")
    static void stepsBeyondLong() {
        FloatTexts x = new FloatTexts();
        long inf = INFINITE[0];
        long low = 0x0010000000000000L;
        same("-inf to inf", x.steps(0, minus(0, inf), inf), Long.MAX_VALUE);
        same("inf to -inf", x.steps(0, inf, minus(0, inf)), Long.MIN_VALUE);
        same("2^63 - 2", x.steps(0, minus(0, low), inf - 2), Long.MAX_VALUE - 1);
        same("2^63 - 1", x.steps(0, minus(0, low), inf - 1), Long.MAX_VALUE);
        same("2^63", x.steps(0, minus(0, low), inf), Long.MAX_VALUE);
        same("2^63 and 1", x.steps(0, minus(0, low + 1), inf), Long.MAX_VALUE);
        same("-(2^63 - 1)", x.steps(0, inf - 1, minus(0, low)), Long.MIN_VALUE + 1);
        same("-2^63", x.steps(0, inf, minus(0, low)), Long.MIN_VALUE);
        same("-(2^63 and 1)", x.steps(0, inf, minus(0, low + 1)), Long.MIN_VALUE);
    }

    @Says(at = "Promise 21", words = "IllegalArgumentException, too: one is a NAN.")
    static void stepsOfNan() {
        for (int f = 0; f < 4; f++) {
            int format = f;
            for (long nan : new long[] {INFINITE[f] + 1, SIGN[f] - 1, minus(f, NAN[f])}) {
                refused("a", x -> x.steps(format, nan, 0));
                refused("b", x -> x.steps(format, 0, nan));
                refused("both", x -> x.steps(format, nan, nan));
            }
        }
    }

    @Says(at = "Promise 22", words = "-1, 0 or 1 as a is less than b, the same (both ZEROS are), or greater")
    static void compare() {
        FloatTexts x = new FloatTexts();
        for (int f = 0; f < 4; f++) {
            same("1 and the next", x.compare(f, ONE[f], ONE[f] + 1), -1);
            same("the next and 1", x.compare(f, ONE[f] + 1, ONE[f]), 1);
            same("1 and 1", x.compare(f, ONE[f], ONE[f]), 0);
            same("-1 and what is below it", x.compare(f, minus(f, ONE[f]), minus(f, ONE[f] + 1)), 1);
            same("what is below -1 and -1", x.compare(f, minus(f, ONE[f] + 1), minus(f, ONE[f])), -1);
            same("-0 and 0", x.compare(f, SIGN[f], 0), 0);
            same("0 and -0", x.compare(f, 0, SIGN[f]), 0);
            same("-0 and the least", x.compare(f, SIGN[f], 1), -1);
            same("0 and the least with minus", x.compare(f, 0, minus(f, 1)), 1);
            same("-inf and inf", x.compare(f, minus(f, INFINITE[f]), INFINITE[f]), -1);
            same("inf and -inf", x.compare(f, INFINITE[f], minus(f, INFINITE[f])), 1);
            same("inf and inf", x.compare(f, INFINITE[f], INFINITE[f]), 0);
            same("inf and the greatest", x.compare(f, INFINITE[f], GREATEST[f]), 1);
        }
    }

    @Says(at = "Promise 22", words = "2 when one is a NAN.")
    static void compareNan() {
        FloatTexts x = new FloatTexts();
        for (int f = 0; f < 4; f++) {
            for (long nan : new long[] {INFINITE[f] + 1, SIGN[f] - 1, minus(f, NAN[f])}) {
                same("a", x.compare(f, nan, INFINITE[f]), 2);
                same("b", x.compare(f, 0, nan), 2);
                same("both", x.compare(f, nan, nan), 2);
            }
        }
    }

    @Says(at = "Promise 23", words = "-1, 0 or 1 in the order of all patterns: all with the sign minus before all others")
    static void orderBySign() {
        FloatTexts x = new FloatTexts();
        for (int f = 0; f < 4; f++) {
            same("-0 and 0", x.order(f, SIGN[f], 0), -1);
            same("0 and -0", x.order(f, 0, SIGN[f]), 1);
            same("-0 and -0", x.order(f, SIGN[f], SIGN[f]), 0);
            same("-nan and 0", x.order(f, minus(f, NAN[f]), 0), -1);
            same("-0 and nan", x.order(f, SIGN[f], NAN[f]), -1);
            same("nan and -nan", x.order(f, NAN[f], minus(f, NAN[f])), 1);
            same("-nan and -nan", x.order(f, minus(f, NAN[f]), minus(f, NAN[f])), 0);
            same("0 and the least with minus", x.order(f, 0, minus(f, 1)), 1);
        }
    }

    @Says(at = "Promise 23", words = "with plus by the patterns, with minus the other way round.")
    static void orderByPattern() {
        FloatTexts x = new FloatTexts();
        for (int f = 0; f < 4; f++) {
            long[] sizes = {0, 1, GREATEST_SUBNORMAL[f], LEAST_NORMAL[f], ONE[f], GREATEST[f], INFINITE[f], INFINITE[f] + 1, SIGN[f] - 1};
            for (int i = 0; i < sizes.length; i++) {
                for (int j = 0; j < sizes.length; j++) {
                    int want = Integer.compare(i, j);
                    same("plus", x.order(f, sizes[i], sizes[j]), want);
                    same("minus", x.order(f, minus(f, sizes[i]), minus(f, sizes[j])), -want);
                    x = new FloatTexts();
                }
            }
        }
    }

    @Says(at = "Promise 24", words = "0 ZERO, 1 SUBNORMAL, 2 NORMAL, 3 INFINITE, 4 a NAN.")
    static void kind() {
        FloatTexts x = new FloatTexts();
        for (int f = 0; f < 4; f++) {
            for (long sign : new long[] {0, SIGN[f]}) {
                same("zero", x.kind(f, sign), 0);
                same("the least subnormal", x.kind(f, sign | 1), 1);
                same("the greatest subnormal", x.kind(f, sign | GREATEST_SUBNORMAL[f]), 1);
                same("the least normal", x.kind(f, sign | LEAST_NORMAL[f]), 2);
                same("the greatest normal", x.kind(f, sign | GREATEST[f]), 2);
                same("infinite", x.kind(f, sign | INFINITE[f]), 3);
                same("the first nan", x.kind(f, sign | INFINITE[f] + 1), 4);
                same("the last nan", x.kind(f, sign | SIGN[f] - 1), 4);
            }
        }
    }

    @Says(at = "Promise 25", words = "Whether m * 10^e ROUNDED by way 0 is just this pattern")
    static void reads() {
        FloatTexts x = new FloatTexts();
        yes("0.1", x.reads(0, bits(0.1), 1, -1));
        yes("not the next one", !x.reads(0, bits(0.1) + 1, 1, -1));
        yes("not with the other sign", !x.reads(0, bits(-0.1), 1, -1));
        yes("-0.1", x.reads(0, bits(-0.1), -1, -1));
        yes("2049 is 2048", x.reads(2, 0x6800, 2049, 0));
        yes("2049 is not 2050", !x.reads(2, 0x6801, 2049, 0));
        yes("2051 is 2052", x.reads(2, 0x6802, 2051, 0));
        yes("65519 is the greatest", x.reads(2, GREATEST[2], 65519, 0));
        yes("65520 is inf", x.reads(2, INFINITE[2], 65520, 0));
        yes("65520 is not the greatest", !x.reads(2, GREATEST[2], 65520, 0));
        yes("what becomes 0 keeps its sign", x.reads(0, SIGN[0], -1, -5000));
        yes("and is not the other 0", !x.reads(0, 0, -1, -5000));
        yes("1e5000 is inf", x.reads(0, INFINITE[0], 1, 5000));
        yes("1e23 is what is below it", x.reads(0, 0x44b52d02c7e14af6L, 1, 23));
        yes("1e23 is not what is above it", !x.reads(0, 0x44b52d02c7e14af7L, 1, 23));
        yes("a nan is nothing", !x.reads(0, NAN[0], 1, 0));
        same("the result stays", rounded(x), "0 0");
    }

    @Says(at = "Promise 25", words = "(m 0: the ZERO with the sign plus)")
    static void readsZero() {
        FloatTexts x = new FloatTexts();
        for (int f = 0; f < 4; f++) {
            for (int e : new int[] {0, -5000, 5000}) {
                yes("0", x.reads(f, 0, 0, e));
                yes("not -0", !x.reads(f, SIGN[f], 0, e));
                yes("nor another", !x.reads(f, 1, 0, e) && !x.reads(f, NAN[f], 0, e));
            }
        }
    }

    @Says(at = "Promise 25", words = "IllegalArgumentException, too: e is not -5000 .. 5000.")
    static void readsOfWrongExponents() {
        for (int e : new int[] {-5001, 5001, ENDS[0], ENDS[1]}) {
            refused("e " + e, x -> x.reads(0, 0, 1, e) ? 1 : 0);
            refused("0, e " + e, x -> x.reads(0, 0, 0, e) ? 1 : 0);
        }
        yes("e 5000", new FloatTexts().reads(0, minus(0, INFINITE[0]), -1, 5000));
        yes("e -5000", new FloatTexts().reads(0, 0, 1, -5000));
    }

    @Says(at = "Promise 26", words = "its SHORTEST decimal ROUNDED by way 0 is the number, "
        + "and neither of the two decimals with one digit less next to its size is")
    static void holds() {
        FloatTexts x = new FloatTexts();
        for (int f = 0; f < 4; f++) {
            for (long size : new long[] {GREATEST_SUBNORMAL[f], LEAST_NORMAL[f], LEAST_NORMAL[f] + 1, ONE[f] + 1, ONE[f] - 1, GREATEST[f]}) {
                yes("format " + f, x.holds(f, size));
                yes("format " + f + ", minus", x.holds(f, minus(f, size)));
            }
        }
        yes("1e23 is a middle", x.holds(0, 0x44b52d02c7e14af6L));
        yes("and so it is above it", x.holds(0, 0x44b52d02c7e14af7L));
        yes("two as near", x.holds(3, 0x4201));
        yes("a near neighbour below", x.holds(0, bits(0x1p-44)));
    }

    @Says(at = "Promise 26", words = "(with one digit: true for these)")
    static void holdsWithOneDigit() {
        for (int f = 0; f < 4; f++) {
            yes("the least", new FloatTexts().holds(f, 1));
            yes("the least with minus", new FloatTexts().holds(f, minus(f, 1)));
            yes("1", new FloatTexts().holds(f, ONE[f]));
            yes("-2", new FloatTexts().holds(f, minus(f, TWO[f])));
        }
        yes("1e22", new FloatTexts().holds(0, bits(1e22)));
        yes("0.1", new FloatTexts().holds(0, bits(0.1)));
    }

    @Says(at = "Promise 26", words = "IllegalArgumentException, too: it is ZERO, INFINITE or a NAN.")
    static void holdsOfNoNumber() {
        for (int f = 0; f < 4; f++) {
            int format = f;
            for (long pattern : new long[] {0, INFINITE[f], INFINITE[f] + 1, NAN[f], SIGN[f] - 1}) {
                refused("format " + f, x -> x.holds(format, pattern) ? 1 : 0);
                refused("format " + f + ", minus", x -> x.holds(format, minus(format, pattern)) ? 1 : 0);
            }
        }
    }
}
