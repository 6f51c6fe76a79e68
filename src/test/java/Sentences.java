/** What the tests of single sentences have in common: due answers are written out, no model is asked. */
abstract class Sentences {
    static final int[] BITS = {64, 32, 16, 16};
    static final long[] SIGN = {Long.MIN_VALUE, 0x80000000L, 0x8000, 0x8000};
    static final long[] INFINITE = {0x7ff0000000000000L, 0x7f800000L, 0x7c00, 0x7f80};
    static final long[] GREATEST = {0x7fefffffffffffffL, 0x7f7fffffL, 0x7bff, 0x7f7f};
    static final long[] GREATEST_SUBNORMAL = {0x000fffffffffffffL, 0x007fffffL, 0x03ff, 0x007f};
    static final long[] LEAST_NORMAL = {0x0010000000000000L, 0x00800000L, 0x0400, 0x0080};
    static final long[] ONE = {0x3ff0000000000000L, 0x3f800000L, 0x3c00, 0x3f80};
    static final long[] TWO = {0x4000000000000000L, 0x40000000L, 0x4000, 0x4000};
    /** The nan that a text tells: only the highest bit of its fraction is set. */
    static final long[] NAN = {0x7ff8000000000000L, 0x7fc00000L, 0x7e00, 0x7fc0};
    static final int[] ENDS = {Integer.MIN_VALUE, Integer.MAX_VALUE};

    static void same(String what, long got, long want) {
        Due.same(what, got, want);
    }

    static void same(String what, String got, String want) {
        Due.same(what, got, want);
    }

    static void yes(String what, boolean got) {
        Due.holds(what, got);
    }

    static void refused(String what, Due.Call call) {
        Due.refuses(what, new FloatTexts(), call);
    }

    static void isOutside(String what, FloatTexts x, Due.Call call) {
        Due.outside(what, x, call);
    }

    static long bits(double number) {
        return Double.doubleToRawLongBits(number);
    }

    static long minus(int format, long pattern) {
        return pattern | SIGN[format];
    }

    /** What a new object reads: pattern and flags, or the place of the fault. */
    static String read(int format, int way, String text) {
        FloatTexts x = Due.with(text);
        int answer = x.read(format, way);
        return answer == 0 ? rounded(x) : "fault " + (-1 - answer);
    }

    static String fault(String text) {
        return read(0, 0, text);
    }

    /** THE RESULT and its FLAGS. */
    static String rounded(FloatTexts x) {
        return rounded(x.result(), x.flags());
    }

    static String rounded(long pattern, int flags) {
        return Long.toHexString(pattern) + " " + flags;
    }

    /** The whole OUT that a call makes; the call answers how many bytes it has. */
    static String out(Due.Call call) {
        return Due.outOf(call);
    }

    /** THE DECIMAL that a call makes: its sign, its point and its digits. */
    static String told(Due.Call call) {
        return Due.decimalOf(call);
    }

    static String outNow(FloatTexts x, int length) {
        StringBuilder all = new StringBuilder();
        for (int i = 0; i < length; i++) {
            all.append((char) x.out(i));
        }
        isOutside("OUT has no more than " + length, x, y -> y.out(length));
        return all.toString();
    }

    static String toldNow(FloatTexts x) {
        StringBuilder all = new StringBuilder(x.decimal(2) == 1 ? "-" : "+");
        int count = x.decimal(0);
        all.append("@").append(x.decimal(1)).append(":");
        for (int i = 0; i < count; i++) {
            all.append(x.digit(i));
        }
        isOutside("there is no digit " + count, x, y -> y.digit(count));
        return all.toString();
    }
}
