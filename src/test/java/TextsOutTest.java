import java.math.BigDecimal;
import java.util.Random;

/** Promises 8 to 16: shortest, exact, middle, digits, fixed, hex, out, decimal, digit. */
public final class TextsOutTest {
    public static void main(String[] args) {
        for (int f = 0; f < 4; f++) {
            for (long bits : Samples.patterns(f, 400, 21 + f)) {
                checkShortest(f, bits);
                checkHex(f, bits);
            }
            for (long bits : Samples.patterns(f, 60, 31 + f)) {
                checkExact(f, bits);
                checkMiddle(f, bits);
                checkRounded(f, bits);
            }
        }
        everySmallPattern();
        writtenAnswers();
        ties();
        outDecimalDigit();
        wrongCalls();
        Due.end(TextsOutTest.class);
    }

    private static void check(String what, Due.Call call, String text, String decimal) {
        Due.same(what, Due.outOf(call), text);
        Due.same(what + ": the decimal", Due.decimalOf(call), decimal);
    }

    private static void checkName(String what, int f, long bits, Due.Call call) {
        check(what, call, Model.name(f, bits), Model.decimal(Model.minus(f, bits), "", 0));
    }

    private static void checkSize(String what, int f, long bits, BigDecimal size, int form, Due.Call call) {
        checkDigits(what, Model.minus(f, bits), Model.digitsOf(size), Model.pointOf(size), form, call);
    }

    private static void checkDigits(String what, boolean minus, String digits, int point, int form, Due.Call call) {
        check(what, call, Model.text(minus, digits, point, form), Model.decimal(minus, digits, point));
    }

    private static void checkShortest(int f, long bits) {
        int kind = Model.kind(f, bits);
        BigDecimal shortest = kind == 0 || kind > 2 ? BigDecimal.ZERO : Model.shortest(f, bits);
        for (int form = 0; form < 3; form++) {
            int as = form;
            String what = "shortest, form " + form + ", " + Due.hexOf(f, bits);
            Due.Call call = x -> x.shortest(f, bits, as);
            if (kind > 2) {
                checkName(what, f, bits, call);
            } else {
                checkSize(what, f, bits, shortest, form, call);
            }
        }
    }

    private static void checkExact(int f, long bits) {
        for (int form = 0; form < 3; form++) {
            int as = form;
            String what = "exact, form " + form + ", " + Due.hexOf(f, bits);
            Due.Call call = x -> x.exact(f, bits, as);
            if (Model.kind(f, bits) > 2) {
                checkName(what, f, bits, call);
            } else {
                checkSize(what, f, bits, Model.size(f, bits), form, call);
            }
        }
    }

    private static void checkMiddle(int f, long bits) {
        for (int form = 0; form < 3; form++) {
            int as = form;
            String what = "middle, form " + form + ", " + Due.hexOf(f, bits);
            if (Model.kind(f, bits) > 2) {
                Due.refuses(what, new FloatTexts(), x -> x.middle(f, bits, as));
            } else {
                checkSize(what, f, bits, Model.middle(f, bits), form, x -> x.middle(f, bits, as));
            }
        }
    }

    private static void checkRounded(int f, long bits) {
        Random random = new Random(bits);
        int own = Model.kind(f, bits) > 2 ? 1 : Model.digitsOf(Model.size(f, bits)).length();
        for (int n : new int[] {1, 2, 3, 17, Math.min(800, own), Math.min(800, own + 1), Math.max(1, own - 1), 800,
                1 + random.nextInt(800), 1 + random.nextInt(20)}) {
            checkSoManyDigits(f, bits, n, random.nextInt(5), random.nextInt(3));
            checkSoManyDigits(f, bits, n, random.nextInt(5), random.nextInt(3));
        }
        int scale = Model.kind(f, bits) > 2 ? 0 : Math.max(0, Model.size(f, bits).stripTrailingZeros().scale());
        for (int n : new int[] {0, 1, 2, 1100, scale, scale + 1, Math.max(0, scale - 1), random.nextInt(1101),
                random.nextInt(20), random.nextInt(400)}) {
            for (int way = 0; way < 5; way++) {
                checkSoManyDecimals(f, bits, n, way);
            }
        }
    }

    private static void checkSoManyDigits(int f, long bits, int n, int way, int form) {
        String what = "digits, " + n + " by " + way + ", form " + form + ", " + Due.hexOf(f, bits);
        Due.Call call = x -> x.digits(f, bits, n, way, form);
        if (Model.kind(f, bits) > 2) {
            checkName(what, f, bits, call);
            return;
        }
        BigDecimal size = Model.toDigits(f, bits, n, way);
        String digits = Model.padded(Model.digitsOf(size), n);
        checkDigits(what, Model.minus(f, bits), digits, Model.pointOf(size), form, call);
    }

    private static void checkSoManyDecimals(int f, long bits, int n, int way) {
        String what = "fixed, " + n + " by " + way + ", " + Due.hexOf(f, bits);
        Due.Call call = x -> x.fixed(f, bits, n, way);
        if (Model.kind(f, bits) > 2) {
            checkName(what, f, bits, call);
            return;
        }
        boolean minus = Model.minus(f, bits);
        BigDecimal size = Model.toDecimals(f, bits, n, way);
        boolean zero = size.signum() == 0;
        String digits = zero ? "0".repeat(n + 1) : size.unscaledValue().toString();
        check(what, call, (minus ? "-" : "") + size.toPlainString(),
            Model.decimal(minus, digits, zero ? 1 : Model.pointOf(size)));
    }

    private static void checkHex(int f, long bits) {
        String want = Model.kind(f, bits) > 2 ? Model.name(f, bits) : Model.hex(f, bits);
        Due.Call call = x -> x.hex(f, bits);
        check("hex, " + Due.hexOf(f, bits), call, want, Model.decimal(Model.minus(f, bits), "", 0));
    }

    /** All patterns of 16 bits: the shortest text of each, read back by the model, and hexadecimal. */
    private static void everySmallPattern() {
        for (int f = 2; f < 4; f++) {
            for (long bits = 0; bits < 65536; bits++) {
                long pattern = bits;
                int form = (int) (bits % 3);
                int kind = Model.kind(f, bits);
                String want = Model.name(f, bits);
                if (kind <= 2) {
                    BigDecimal size = kind == 0 ? BigDecimal.ZERO : Model.shortest(f, bits);
                    want = Model.text(Model.minus(f, bits), Model.digitsOf(size), Model.pointOf(size), form);
                }
                int as = f;
                Due.same("shortest of " + Due.hexOf(f, bits), Due.outOf(x -> x.shortest(as, pattern, form)), want);
            }
        }
    }

    private static void writtenAnswers() {
        long tenth = Double.doubleToRawLongBits(0.1);
        Due.same("0.1", Due.outOf(x -> x.shortest(0, tenth, 2)), "0.1");
        Due.same("0.1 exact", Due.outOf(x -> x.exact(0, tenth, 2)),
            "0.1000000000000000055511151231257827021181583404541015625");
        Due.same("least", Due.outOf(x -> x.shortest(0, 1, 0)), "5e-324");
        Due.same("greatest", Due.outOf(x -> x.shortest(0, 0x7fefffffffffffffL, 0)), "1.7976931348623157e308");
        Due.same("2^-44", Due.outOf(x -> x.shortest(0, Double.doubleToRawLongBits(0x1p-44), 0)), "5.684341886080802e-14");
        Due.same("9007199254740992 and 2", Due.outOf(x -> x.shortest(0, Double.doubleToRawLongBits(0x1p53 + 2), 2)),
            "9007199254740994");
        Due.same("2e23", Due.outOf(x -> x.shortest(0, Double.doubleToRawLongBits(2e23), 0)), "2e23");
        Due.same("9.5 in a digit", Due.outOf(x -> x.digits(0, Double.doubleToRawLongBits(9.5), 1, 0, 0)), "1e1");
        Due.same("9.5 in a digit, plain", Due.outOf(x -> x.digits(0, Double.doubleToRawLongBits(9.5), 1, 0, 1)), "10");
        Due.same("9.96 in two", Due.outOf(x -> x.digits(0, Double.doubleToRawLongBits(9.96), 2, 0, 0)), "1.0e1");
        Due.same("9.96, one decimal", Due.outOf(x -> x.fixed(0, Double.doubleToRawLongBits(9.96), 1, 0)), "10.0");
        Due.same("999.5, no decimal", Due.outOf(x -> x.fixed(0, Double.doubleToRawLongBits(999.5), 0, 1)), "1000");
        Due.same("-0.25, no decimal", Due.outOf(x -> x.fixed(0, Double.doubleToRawLongBits(-0.25), 0, 0)), "-0");
        Due.same("-0.25, three", Due.outOf(x -> x.fixed(0, Double.doubleToRawLongBits(-0.25), 3, 0)), "-0.250");
        Due.same("-0 in three", Due.outOf(x -> x.digits(0, Long.MIN_VALUE, 3, 0, 0)), "-0.00e0");
        Due.same("0 in three, plain", Due.outOf(x -> x.digits(0, 0, 3, 0, 1)), "0.00");
        Due.same("1e21", Due.outOf(x -> x.shortest(0, Double.doubleToRawLongBits(1e21), 2)), "1e21");
        Due.same("1e20", Due.outOf(x -> x.shortest(0, Double.doubleToRawLongBits(1e20), 2)), "100000000000000000000");
        Due.same("1e-6", Due.outOf(x -> x.shortest(0, Double.doubleToRawLongBits(1e-6), 2)), "0.000001");
        Due.same("1e-7", Due.outOf(x -> x.shortest(0, Double.doubleToRawLongBits(1e-7), 2)), "1e-7");
        Due.same("pi", Due.outOf(x -> x.hex(0, Double.doubleToRawLongBits(Math.PI))), "0x1.921fb54442d18p1");
        Due.same("-0", Due.outOf(x -> x.hex(0, Long.MIN_VALUE)), "-0x0p0");
        Due.same("a subnormal", Due.outOf(x -> x.hex(1, 3)), "0x1.8p-148");
        Due.same("32.25 of format 3", Due.outOf(x -> x.shortest(3, 0x4201, 1)), "32.2");
        Due.same("32.75 of format 3", Due.outOf(x -> x.shortest(3, 0x4203, 1)), "32.8");
    }

    /** Numbers just between two decimals, by all ways and both signs. */
    private static void ties() {
        for (double d : new double[] {0.5, 1.5, 2.5, 0.25, 0.75, 0.125, 0.375, 9.5, 99.5, 0.05, 12.5, 1e22, 5, 15, 25, 95, 1250,
                11, 21, 101, 1001, 110, 2010, 64, 99, 9999, 1e9, 1000000001, 999999999.5, 999999999999999.0}) {
            for (int sign = 0; sign < 2; sign++) {
                long bits = Double.doubleToRawLongBits(sign == 0 ? d : -d);
                for (int way = 0; way < 5; way++) {
                    for (int n = 0; n < 4; n++) {
                        checkSoManyDecimals(0, bits, n, way);
                        checkSoManyDigits(0, bits, n + 1, way, (n + way) % 3);
                    }
                }
            }
        }
    }

    private static void outDecimalDigit() {
        FloatTexts x = new FloatTexts();
        Due.same("make -12.5", x.exact(0, Double.doubleToRawLongBits(-12.5), 1), 5);
        Due.same("out(0)", x.out(0), '-');
        Due.same("out(4)", x.out(4), '5');
        Due.outside("out(5)", x, y -> y.out(5));
        Due.outside("out(-1)", x, y -> y.out(-1));
        Due.outside("out, least", x, y -> y.out(Integer.MIN_VALUE));
        Due.outside("out, greatest", x, y -> y.out(Integer.MAX_VALUE));
        Due.same("digits", x.decimal(0), 3);
        Due.same("point", x.decimal(1), 2);
        Due.same("sign", x.decimal(2), 1);
        Due.refuses("decimal(3)", x, y -> y.decimal(3));
        Due.refuses("decimal(-1)", x, y -> y.decimal(-1));
        Due.same("digit(0)", x.digit(0), 1);
        Due.same("digit(2)", x.digit(2), 5);
        Due.outside("digit(3)", x, y -> y.digit(3));
        Due.outside("digit(-1)", x, y -> y.digit(-1));
        Due.outside("digit, least", x, y -> y.digit(Integer.MIN_VALUE));
        Due.outside("digit, greatest", x, y -> y.digit(Integer.MAX_VALUE));
        Due.same("a shorter OUT", x.shortest(0, Double.doubleToRawLongBits(3.0), 1), 1);
        Due.outside("out(1) is gone", x, y -> y.out(1));
        Due.outside("digit(1) is gone", x, y -> y.digit(1));
        Due.same("no sign", x.decimal(2), 0);
        Due.same("hex", x.hex(0, Double.doubleToRawLongBits(-3.0)), 8);
        Due.same("no digits", x.decimal(0), 0);
        Due.same("point 0", x.decimal(1), 0);
        Due.same("the sign is told", x.decimal(2), 1);
        Due.outside("no digit", x, y -> y.digit(0));
    }

    private static void wrongCalls() {
        FloatTexts x = new FloatTexts();
        for (int wrong : new int[] {-1, 4, Integer.MIN_VALUE, Integer.MAX_VALUE}) {
            refusesAll("format " + wrong, x, wrong, 0, 1, 0, 0);
        }
        for (int f = 1; f < 4; f++) {
            for (long wrong : new long[] {-1, 1L << Model.BITS[f], Long.MIN_VALUE, 1L << 40}) {
                refusesAll("pattern " + wrong, x, f, wrong, 1, 0, 0);
            }
        }
        for (int wrong : new int[] {-1, 3, Integer.MIN_VALUE, Integer.MAX_VALUE}) {
            for (long bits : new long[] {0, 1, 0x7ff0000000000000L}) {
                Due.refuses("shortest, form " + wrong, x, y -> y.shortest(0, bits, wrong));
                Due.refuses("exact, form " + wrong, x, y -> y.exact(0, bits, wrong));
                Due.refuses("middle, form " + wrong, x, y -> y.middle(0, bits, wrong));
                Due.refuses("digits, form " + wrong, x, y -> y.digits(0, bits, 1, 0, wrong));
            }
        }
        for (int wrong : new int[] {-1, 5, Integer.MIN_VALUE, Integer.MAX_VALUE}) {
            for (long bits : new long[] {0, 1, 0x7ff0000000000000L}) {
                Due.refuses("digits, way " + wrong, x, y -> y.digits(0, bits, 1, wrong, 0));
                Due.refuses("fixed, way " + wrong, x, y -> y.fixed(0, bits, 1, wrong));
            }
        }
        for (long bits : new long[] {0, 1, 0x7ff0000000000000L}) {
            for (int wrong : new int[] {-1, 0, 801, Integer.MIN_VALUE, Integer.MAX_VALUE}) {
                Due.refuses("digits, n " + wrong, x, y -> y.digits(0, bits, wrong, 0, 0));
            }
            for (int wrong : new int[] {-1, 1101, Integer.MIN_VALUE, Integer.MAX_VALUE}) {
                Due.refuses("fixed, n " + wrong, x, y -> y.fixed(0, bits, wrong, 0));
            }
        }
        Due.same("no OUT yet", x.pass(), 0);
    }

    private static void refusesAll(String what, FloatTexts x, int f, long bits, int n, int way, int form) {
        Due.refuses("shortest, " + what, x, y -> y.shortest(f, bits, form));
        Due.refuses("exact, " + what, x, y -> y.exact(f, bits, form));
        Due.refuses("middle, " + what, x, y -> y.middle(f, bits, form));
        Due.refuses("digits, " + what, x, y -> y.digits(f, bits, n, way, form));
        Due.refuses("fixed, " + what, x, y -> y.fixed(f, bits, n, way));
        Due.refuses("hex, " + what, x, y -> y.hex(f, bits));
    }
}
