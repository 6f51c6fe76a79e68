import java.math.BigDecimal;
import java.math.BigInteger;
import java.util.List;
import java.util.Random;

/** Promises 17 to 26: nearest, power, convert, next, steps, compare, order, kind, reads, holds. */
public final class NumbersTest {
    private static final long[] LONGS = {
        0, 1, -1, 2, 3, 5, -5, 9, 10, 99, 100, 1L << 52, 1L << 53, (1L << 53) + 1, (1L << 53) - 1, (1L << 54) + 2,
        Long.MAX_VALUE, Long.MIN_VALUE, Long.MIN_VALUE + 1, Long.MAX_VALUE - 1, 999999999999999999L, -1000000000000000000L,
        17976931348623157L, 17976931348623158L, 17976931348623159L, 24703282292062327L, 24703282292062328L, 49406564584124654L,
        65504, 65519, 65520, 2049, 2051, 257, 259
    };

    public static void main(String[] args) {
        nearest();
        power();
        convert();
        convertNans();
        next();
        steps();
        comparing();
        kinds();
        reads();
        holds();
        wrongCalls();
        Due.end(NumbersTest.class);
    }

    private static void checkNearest(int f, long m, int e, int way) {
        long[] want = Model.roundSigned(f, BigDecimal.valueOf(m).scaleByPowerOfTen(e), way);
        FloatTexts x = new FloatTexts();
        x.convert(0, -1, 0, 0);
        String what = "nearest(" + f + ", " + m + ", " + e + ", " + way + ")";
        Due.same(what, x.nearest(f, m, e, way), want[0]);
        Due.same(what + ": result", x.result(), want[0]);
        Due.same(what + ": flags", x.flags(), want[1]);
    }

    private static void nearest() {
        int[] exponents = {
            -5000, -4999, -400, -344, -343, -342, -341, -340, -330, -326, -325, -324, -323, -308, -60, -46, -45, -38, -9, -8, -7,
            -5, -1, 0, 1, 2, 3, 4, 5, 15, 18, 22, 23, 37, 38, 39, 289, 290, 291, 292, 293, 308, 309, 310, 311, 312, 330, 5000
        };
        Random random = new Random(3);
        for (long m : LONGS) {
            for (int e : exponents) {
                checkNearest(random.nextInt(4), m, e, random.nextInt(5));
                checkNearest(0, m, e, random.nextInt(5));
            }
        }
        for (int i = 0; i < 8000; i++) {
            long m = random.nextLong() >> random.nextInt(64);
            checkNearest(random.nextInt(4), m, random.nextInt(i % 2 == 0 ? 700 : 60) - (i % 2 == 0 ? 360 : 40), random.nextInt(5));
        }
    }

    private static void checkPower(int f, long m, int e, int way) {
        int near = Math.max(-3000, Math.min(3000, e));
        long[] want = Model.roundSigned(f, BigDecimal.valueOf(m).multiply(Model.two(near)), way);
        FloatTexts x = new FloatTexts();
        x.convert(0, -1, 0, 0);
        String what = "power(" + f + ", " + m + ", " + e + ", " + way + ")";
        Due.same(what, x.power(f, m, e, way), want[0]);
        Due.same(what + ": result", x.result(), want[0]);
        Due.same(what + ": flags", x.flags(), want[1]);
    }

    private static void power() {
        int[] exponents = {
            Integer.MIN_VALUE, Integer.MIN_VALUE + 1, -1000000, -1139, -1138, -1137, -1136, -1076, -1075, -1074, -1073, -1022,
            -213, -212, -211, -197, -196, -151, -150, -149, -134, -133, -126, -88, -87, -26, -25, -24, -14, -1, 0, 1, 5, 15, 16,
            64, 65, 66, 120, 127, 128, 960, 961, 971, 972, 1022, 1023, 1024, 1000000, Integer.MAX_VALUE - 63, Integer.MAX_VALUE
        };
        for (long m : LONGS) {
            for (int e : exponents) {
                for (int i = 0; i < 20; i++) {
                    checkPower(i % 4, m, e, i / 4);
                }
            }
        }
        Random random = new Random(4);
        for (int i = 0; i < 8000; i++) {
            checkPower(i % 4, random.nextLong() >> random.nextInt(64), random.nextInt(i % 3 == 0 ? 2400 : 300) - (i % 3 == 0 ? 1200 : 180),
                random.nextInt(5));
        }
    }

    private static void convert() {
        Random random = new Random(6);
        for (int f = 0; f < 4; f++) {
            for (long bits : Samples.patterns(f, 300, 40 + f)) {
                if (Model.kind(f, bits) == 4) {
                    continue;
                }
                for (int to = 0; to < 4; to++) {
                    for (int way = 0; way < 5; way++) {
                        checkConvert(f, bits, to, way);
                    }
                }
            }
        }
        for (int i = 0; i < 4000; i++) {
            // doubles within reach of the narrow formats
            int to = 1 + random.nextInt(3);
            long x = 1023 - Model.E[to] - Model.P[to] - 2 + random.nextInt(2 * Model.E[to] + Model.P[to] + 5);
            long y = random.nextLong() & 0xfffffffffffffL;
            if (i % 3 == 0) {
                y &= -1L << (52 - random.nextInt(Model.P[to] + 2));
            }
            checkConvert(0, (random.nextLong() & Long.MIN_VALUE) | x << 52 | y & 0xfffffffffffffL, to, random.nextInt(5));
        }
    }

    private static void checkConvert(int f, long bits, int to, int way) {
        long[] want = converted(f, bits, to, way);
        FloatTexts x = new FloatTexts();
        x.nearest(0, 1, 400, 0);
        String what = "convert to " + to + " by " + way + ", " + Due.hexOf(f, bits);
        Due.same(what, x.convert(f, bits, to, way), want[0]);
        Due.same(what + ": result", x.result(), want[0]);
        Due.same(what + ": flags", x.flags(), want[1]);
    }

    static long[] converted(int f, long bits, int to, int way) {
        boolean minus = Model.minus(f, bits);
        switch (Model.kind(f, bits)) {
            case 0: return new long[] {Model.signed(to, minus, 0), 0};
            case 3: return new long[] {Model.signed(to, minus, Model.infinite(to)), 0};
            case 4: return new long[] {convertedNan(f, bits, to), 0};
            default: return Model.round(to, minus, Model.size(f, bits), way);
        }
    }

    /** The bits behind the highest one of the fraction, as texts of 0 and 1. */
    private static long convertedNan(int f, long bits, int to) {
        long fraction = Model.unsigned(f, bits) - Model.infinite(f);
        String own = Long.toBinaryString(1L << (Model.P[f] - 1) | fraction).substring(2);
        String room = (own + "0".repeat(64)).substring(0, Model.P[to] - 2);
        return Model.signed(to, Model.minus(f, bits), Model.infinite(to) + Long.parseLong("1" + room, 2));
    }

    private static void convertNans() {
        Random random = new Random(9);
        for (int i = 0; i < 4000; i++) {
            int f = i % 4;
            int to = i / 4 % 4;
            long fraction = 1 + (random.nextLong() >>> 1) % ((1L << (Model.P[f] - 1)) - 1);
            boolean minus = random.nextBoolean();
            long bits = Model.signed(f, minus, Model.infinite(f) + fraction);
            long want = convertedNan(f, bits, to);
            FloatTexts x = new FloatTexts();
            x.nearest(0, 1, 400, 0);
            String what = "convert to " + to + ", " + Due.hexOf(f, bits);
            Due.same(what, x.convert(f, bits, to, i % 5), want);
            Due.same(what + ": result", x.result(), want);
            Due.same(what + ": flags", x.flags(), 0);
        }
    }

    /** The place among all numbers from the least to the greatest, both zeros at 0. */
    static BigInteger place(int f, long bits) {
        BigInteger size = BigInteger.valueOf(Model.unsigned(f, bits));
        return Model.minus(f, bits) ? size.negate() : size;
    }

    private static void next() {
        for (int f = 0; f < 4; f++) {
            for (long bits : Samples.patterns(f, 400, 50 + f)) {
                for (boolean up : new boolean[] {true, false}) {
                    long got = new FloatTexts().next(f, bits, up);
                    Due.same("next, up " + up + ", " + Due.hexOf(f, bits), got, nextOf(f, bits, up));
                }
            }
        }
        FloatTexts x = new FloatTexts();
        Due.same("up from -0", x.next(2, 0x8000, true), 1);
        Due.same("down from 0", x.next(2, 0, false), 0x8001);
        Due.same("up to -0", x.next(2, 0x8001, true), 0x8000);
        Due.same("down to 0", x.next(2, 1, false), 0);
        Due.same("up to inf", x.next(2, 0x7bff, true), 0x7c00);
        Due.same("up from inf", x.next(2, 0x7c00, true), 0x7c00);
        Due.same("down from inf", x.next(2, 0x7c00, false), 0x7bff);
        Due.same("down from -inf", x.next(2, 0xfc00, false), 0xfc00);
        Due.same("up from -inf", x.next(2, 0xfc00, true), 0xfbff);
        Due.same("of a nan", x.next(2, 0xfc01, true), 0xfc01);
    }

    static long nextOf(int f, long bits, boolean up) {
        if (Model.kind(f, bits) == 4 || Model.kind(f, bits) == 3 && up != Model.minus(f, bits)) {
            return bits;
        }
        BigInteger to = place(f, bits).add(up ? BigInteger.ONE : BigInteger.ONE.negate());
        boolean minus = to.signum() < 0 || to.signum() == 0 && Model.minus(f, bits);
        return Model.signed(f, minus, to.abs().longValue());
    }

    private static void steps() {
        Random random = new Random(10);
        for (int f = 0; f < 4; f++) {
            List<Long> all = Samples.patterns(f, 100, 60 + f);
            for (long a : all) {
                for (int i = 0; i < 40; i++) {
                    long b = all.get(random.nextInt(all.size()));
                    String what = "steps to 0x" + Long.toHexString(b) + ", " + Due.hexOf(f, a);
                    int as = f;
                    if (Model.kind(f, a) == 4 || Model.kind(f, b) == 4) {
                        Due.refuses(what, new FloatTexts(), x -> x.steps(as, a, b));
                        continue;
                    }
                    Due.same(what, new FloatTexts().steps(f, a, b), stepsOf(f, a, b));
                }
            }
        }
        walk(2, 0x8005, 0x0007);
        walk(3, 0x7f00, 0x7f80);
        FloatTexts x = new FloatTexts();
        Due.same("2^63 - 1 steps", x.steps(0, 0xc010000000000000L, 0x7fefffffffffffffL - 0x10000000000000L), Long.MAX_VALUE);
        Due.same("just 2^63 - 1", x.steps(0, Long.MIN_VALUE | 0x0020000000000000L, 0x7fdfffffffffffffL), Long.MAX_VALUE);
        Due.same("2^63 - 2", x.steps(0, Long.MIN_VALUE | 0x0020000000000000L, 0x7fdffffffffffffeL), Long.MAX_VALUE - 1);
        Due.same("just -2^63", x.steps(0, 0x7fe0000000000000L, Long.MIN_VALUE | 0x0020000000000000L), Long.MIN_VALUE);
        Due.same("-2^63 and 1", x.steps(0, 0x7fdfffffffffffffL, Long.MIN_VALUE | 0x0020000000000000L), Long.MIN_VALUE + 1);
        Due.same("beyond -2^63", x.steps(0, 0x7fe0000000000001L, Long.MIN_VALUE | 0x0020000000000000L), Long.MIN_VALUE);
    }

    static long stepsOf(int f, long a, long b) {
        BigInteger all = place(f, b).subtract(place(f, a));
        return all.min(BigInteger.valueOf(Long.MAX_VALUE)).max(BigInteger.valueOf(Long.MIN_VALUE)).longValue();
    }

    /** The steps told are just those that next() goes. */
    private static void walk(int f, long from, long to) {
        FloatTexts x = new FloatTexts();
        long at = from;
        long steps = x.steps(f, from, to);
        for (long i = 0; i < steps; i++) {
            at = x.next(f, at, true);
        }
        Due.same("walk to", at, to);
        for (long i = 0; i < steps; i++) {
            at = x.next(f, at, false);
        }
        Due.same("walk back", at, from);
    }

    private static void comparing() {
        Random random = new Random(12);
        for (int f = 0; f < 4; f++) {
            List<Long> all = Samples.patterns(f, 100, 70 + f);
            for (long a : all) {
                for (int i = 0; i < 60; i++) {
                    long b = i == 0 ? a : all.get(random.nextInt(all.size()));
                    FloatTexts x = new FloatTexts();
                    String pair = " with 0x" + Long.toHexString(b) + ", " + Due.hexOf(f, a);
                    boolean nan = Model.kind(f, a) == 4 || Model.kind(f, b) == 4;
                    Due.same("compare" + pair, x.compare(f, a, b), nan ? 2 : place(f, a).compareTo(place(f, b)));
                    Due.same("order" + pair, x.order(f, a, b), Integer.compare(rank(f, a).compareTo(rank(f, b)), 0));
                }
            }
        }
    }

    /** -0 is before 0, and both are apart. */
    static BigInteger rank(int f, long bits) {
        BigInteger place = place(f, bits);
        return Model.minus(f, bits) ? place.subtract(BigInteger.ONE) : place;
    }

    private static void kinds() {
        for (int f = 0; f < 4; f++) {
            for (long bits : Samples.patterns(f, 500, 80 + f)) {
                Due.same("kind of " + Due.hexOf(f, bits), new FloatTexts().kind(f, bits), Model.kind(f, bits));
            }
        }
        FloatTexts x = new FloatTexts();
        Due.same("0", x.kind(3, 0x8000), 0);
        Due.same("subnormal", x.kind(3, 0x807f), 1);
        Due.same("normal", x.kind(3, 0x8080), 2);
        Due.same("the greatest", x.kind(3, 0x7f7f), 2);
        Due.same("inf", x.kind(3, 0xff80), 3);
        Due.same("nan", x.kind(3, 0x7f81), 4);
    }

    private static void reads() {
        Random random = new Random(13);
        for (int i = 0; i < 6000; i++) {
            int f = random.nextInt(4);
            long m = random.nextLong() >> random.nextInt(64);
            int e = random.nextInt(i % 2 == 0 ? 700 : 60) - (i % 2 == 0 ? 360 : 40);
            long want = Model.roundSigned(f, BigDecimal.valueOf(m).scaleByPowerOfTen(e), 0)[0];
            FloatTexts x = new FloatTexts();
            String what = "reads " + m + "e" + e + " of format " + f;
            Due.holds(what, x.reads(f, want, m, e));
            Due.holds(what + ", not the next", !x.reads(f, want ^ 1, m, e));
            Due.holds(what + ", not the other sign", !x.reads(f, want ^ Model.signBit(f), m, e));
            Due.same(what + ": the result stays", x.result(), 0);
            Due.same(what + ": the flags stay", x.flags(), 0);
        }
        FloatTexts x = new FloatTexts();
        Due.holds("0 reads 0", x.reads(1, 0, 0, -5000));
        Due.holds("-0 does not", !x.reads(1, 0x80000000L, 0, 5000));
        Due.holds("-0 reads what becomes it", x.reads(1, 0x80000000L, -1, -5000));
        Due.holds("inf reads too much", x.reads(1, 0x7f800000L, 1, 5000));
        Due.holds("a nan reads nothing", !x.reads(1, 0x7f800001L, 1, 5000));
    }

    private static void holds() {
        for (int f = 0; f < 4; f++) {
            for (long bits : Samples.patterns(f, 500, 90 + f)) {
                int kind = Model.kind(f, bits);
                String what = "holds of " + Due.hexOf(f, bits);
                FloatTexts x = new FloatTexts();
                x.shortest(0, Double.doubleToRawLongBits(-12.5), 1);
                int as = f;
                if (kind == 1 || kind == 2) {
                    Due.holds(what, x.holds(f, bits));
                } else {
                    Due.refuses(what, x, y -> y.holds(as, bits) ? 1 : 0);
                }
                Due.same(what + ": OUT stays", x.out(1), '1');
                Due.same(what + ": the decimal stays", x.decimal(0) * 100 + x.decimal(1) * 10 + x.decimal(2), 321);
                Due.same(what + ": its digits stay", x.digit(0) * 100 + x.digit(1) * 10 + x.digit(2), 125);
                Due.same(what + ": the result stays", x.result(), 0);
            }
        }
    }

    private static void wrongCalls() {
        FloatTexts x = new FloatTexts();
        for (int wrong : new int[] {-1, 4, Integer.MIN_VALUE, Integer.MAX_VALUE}) {
            Due.refuses("nearest, format " + wrong, x, y -> y.nearest(wrong, 1, 0, 0));
            Due.refuses("power, format " + wrong, x, y -> y.power(wrong, 1, 0, 0));
            Due.refuses("convert, to " + wrong, x, y -> y.convert(0, 0, wrong, 0));
            Due.refuses("convert of a nan, to " + wrong, x, y -> y.convert(0, -1, wrong, 0));
            refusesPattern("format " + wrong, x, wrong, 0);
        }
        for (int f = 1; f < 4; f++) {
            for (long wrong : new long[] {-1, 1L << Model.BITS[f], Long.MIN_VALUE, 1L << 40}) {
                int as = f;
                refusesPattern("pattern " + wrong, x, f, wrong);
                Due.refuses("steps, second", x, y -> y.steps(as, 0, wrong));
                Due.refuses("compare, second", x, y -> y.compare(as, 0, wrong));
                Due.refuses("order, second", x, y -> y.order(as, 0, wrong));
            }
        }
        for (int wrong : new int[] {-1, 5, Integer.MIN_VALUE, Integer.MAX_VALUE}) {
            Due.refuses("nearest, way " + wrong, x, y -> y.nearest(0, 1, 0, wrong));
            Due.refuses("nearest of 0, way " + wrong, x, y -> y.nearest(0, 0, 0, wrong));
            Due.refuses("power, way " + wrong, x, y -> y.power(0, 1, 0, wrong));
            Due.refuses("power of 0, way " + wrong, x, y -> y.power(0, 0, 0, wrong));
            Due.refuses("convert, way " + wrong, x, y -> y.convert(0, 1, 1, wrong));
            Due.refuses("convert of a nan, way " + wrong, x, y -> y.convert(0, -1, 1, wrong));
        }
        for (int wrong : new int[] {-5001, 5001, Integer.MIN_VALUE, Integer.MAX_VALUE}) {
            Due.refuses("nearest, e " + wrong, x, y -> y.nearest(0, 1, wrong, 0));
            Due.refuses("nearest of 0, e " + wrong, x, y -> y.nearest(0, 0, wrong, 0));
            Due.refuses("reads, e " + wrong, x, y -> y.reads(0, 0, 1, wrong) ? 1 : 0);
            Due.refuses("reads 0, e " + wrong, x, y -> y.reads(0, 0, 0, wrong) ? 1 : 0);
        }
        Due.same("no result yet", x.result(), 0);
    }

    private static void refusesPattern(String what, FloatTexts x, int f, long bits) {
        Due.refuses("convert, " + what, x, y -> y.convert(f, bits, 0, 0));
        Due.refuses("next, " + what, x, y -> y.next(f, bits, true));
        Due.refuses("steps, " + what, x, y -> y.steps(f, bits, 0));
        Due.refuses("compare, " + what, x, y -> y.compare(f, bits, 0));
        Due.refuses("order, " + what, x, y -> y.order(f, bits, 0));
        Due.refuses("kind, " + what, x, y -> y.kind(f, bits));
        Due.refuses("reads, " + what, x, y -> y.reads(f, bits, 1, 0) ? 1 : 0);
        Due.refuses("holds, " + what, x, y -> y.holds(f, bits) ? 1 : 0);
    }
}
