import java.util.ArrayList;
import java.util.List;
import java.util.Random;

/** Patterns and texts for the tests, the same in every run. */
final class Samples {
    private Samples() {
    }

    /** The patterns at the edges of a format, with both signs. */
    static List<Long> edges(int f) {
        long normal = 1L << (Model.P[f] - 1);
        long infinite = Model.infinite(f);
        long one = (long) Model.E[f] << (Model.P[f] - 1);
        long[] sizes = {
            0, 1, 2, 3, normal - 1, normal, normal + 1, 2 * normal - 1, 2 * normal, 2 * normal + 1,
            one - 1, one, one + 1, one + normal, one + normal / 2,
            infinite - normal, infinite - 2, infinite - 1, infinite, infinite + 1, infinite + normal / 2,
            infinite + normal - 1
        };
        List<Long> all = new ArrayList<>();
        for (long size : sizes) {
            all.add(size);
            all.add(Model.signed(f, true, size));
        }
        return all;
    }

    /** Edges and random patterns: even over all, near the least, powers of 2 and their neighbours. */
    static List<Long> patterns(int f, int count, long seed) {
        Random random = new Random(seed);
        List<Long> all = edges(f);
        long all1 = Model.BITS[f] == 64 ? -1L : (1L << Model.BITS[f]) - 1;
        for (int i = 0; i < count; i++) {
            long bits = random.nextLong() & all1;
            switch (i % 4) {
                case 1:
                    long exponent = bits & Model.infinite(f);
                    bits = Math.max(0, exponent + random.nextInt(3) - 1);
                    break;
                case 2:
                    bits = random.nextLong() & ((1L << (1 + random.nextInt(Model.P[f]))) - 1);
                    break;
                case 3:
                    // numbers about 1, whose decimals are short
                    bits = ((long) (Model.E[f] + random.nextInt(11) - 5) << (Model.P[f] - 1))
                        + ((bits & 255) << (Model.P[f] - 9 < 0 ? 0 : Model.P[f] - 9)) % (1L << (Model.P[f] - 1));
                    break;
                default:
                    break;
            }
            all.add(bits & all1);
        }
        return all;
    }

    static List<Long> finite(int f, int count, long seed) {
        List<Long> all = new ArrayList<>();
        for (long bits : patterns(f, count, seed)) {
            if (Model.kind(f, bits) < 3) {
                all.add(bits);
            }
        }
        return all;
    }

    /** Texts that are right and texts that are not. */
    static List<String> texts() {
        String[] written = {
            "", "+", "-", "+-1", "--1", "0", "-0", "+0", "00", "0.", ".0", "-.0", ".", "..", "1..", "1.2.3", ".e1",
            "e1", "1e", "1E", "1e+", "1e-", "1e+-1", "1e5", "1E5", "1e+5", "1E-5", "1e5.", "1e5e", "1e 5", " 1", "1 ",
            "1.", ".5", "-.5", "+1.5e0", "1.5e00000000000000000000001", "1e99999999999999999999", "-1e99999999999999999999",
            "1e-99999999999999999999", "-1e-99999999999999999999", "0e99999999999999999999", "0.000e-9999999999",
            "1e2147483647", "1e2147483648", "1e-2147483648", "1e4294967296", "1e4294967297", "1e18446744073709551616",
            "i", "in", "inf", "INF", "Inf", "iNf", "-inf", "+inf", "infi", "infin", "infini", "infinit", "infinity",
            "INFINITY", "-iNfInItY", "infinityx", "infinitx", "infx", "infinitY1", "inff", "ix", "inx", "+infinit",
            "n", "na", "nan", "NAN", "NaN", "-nan", "+nAn", "nanx", "nax", "nx", "nan0", "nan(1)", "+-nan",
            "0x", "0X", "0x.", "0x.p1", "0x1", "0X1", "0x1.", "0x.8", "0xg", "0x1g", "0x1.8p1", "0x1.8P+1", "0x1.8p-1",
            "0x1p", "0x1p+", "0x1p-", "0x1pa", "0x1p1a", "0x1p1.0", "0x1..", "0x1.1.", "-0x1p1", "+0X1P1", "0x0", "-0x0p5",
            "0x0.000p99999999999", "0x1p99999999999", "-0x1p99999999999", "0x1p-99999999999", "-0x1p-99999999999",
            "0xabcdef", "0xABCDEF", "0x1e5", "0x1e+5", "00x1", "1x1", "x1", "0.x1", "0x-1", "0x+1", "0xx1", "0xp1",
            "0x1e", "0xep0", "0x1.fffffffffffff8p1023", "0x1.fffffffffffff7p1023", "0x1.fffffffffffff80000000001p1023",
            "0x1p1024", "0x1p-1074", "0x1p-1075", "0x1.0000000000000000000000001p-1075", "0x.8p-1074", "0x3p-1075",
            "0x1.00000080000000p0", "0x1.000001p0", "0x1.0000010000000000001p0", "0x1.00000100000000000000p0",
            "0x1.004p0", "0x1.0040000000000000000000p0", "0x1.00400000000000000000001p0", "0x1.01p0", "0x1.03p0",
            "1_0", "1,5", "1f", "1d", "1L", "\u00001", "1\u0000", "\u00e9", "1\u00ff", "-\u00b9", "\u00b2", "1e\u00b2",
            "9007199254740993", "9007199254740993.0000000000000000000000000000000000000000000000000001", "9007199254740992.9999",
            "1.7976931348623157e308", "1.7976931348623158e308", "1.7976931348623159e308", "1.797693134862315807e308",
            "179769313486231580793728971405303415079934132710037826936173778980444968292764750946649017977587207096330286"
            + "416692887910946555547851940402630657488671505820681908902000708383676273854845817711531764475730270069855571"
            + "366959622842914819860834936475292719074168444365510704342711559699508093042880e0",
            "4.9406564584124654e-324", "2.4703282292062327e-324", "2.4703282292062328e-324", "3e-324", "2e-324", "1e-324",
            "2.2250738585072011e-308", "2.2250738585072012e-308", "2.2250738585072014e-308", "1.1754943508222875e-38",
            "1.4012984643248170709e-45", "7.006492321624085e-46", "7.006492321624086e-46", "3.4028235677973366e38",
            "3.4028235677973365e38", "3.4028234663852886e38", "3.40282357e38", "65504", "65519", "65519.9999", "65520", "65536",
            "5.960464477539063e-08", "2.98023223876953125e-8", "2.980232238769531250001e-8", "2.98023223876953124e-8",
            "6.1035156e-05", "6.09755516e-05", "33895313892515354759047080037148786688", "340282366920938463463374607431768211456",
            "1e309", "1e310", "1e311", "1e-330", "1e-331", "1e-332", "0.1e311", "0.1e310", "100e-333", "100e-332"
        };
        List<String> all = new ArrayList<>(List.of(written));
        addZeroPadded(all);
        return all;
    }

    private static void addZeroPadded(List<String> all) {
        String zeros = "0".repeat(1500);
        all.add("0." + zeros + "1e1501");
        all.add("0." + zeros + "1e1502");
        all.add("-0." + zeros + "25e1501");
        all.add("1" + zeros + "e-1500");
        all.add("123456789" + zeros + "e-1509");
        all.add("1." + zeros + "1");
        all.add("9007199254740993" + zeros + "1e-1501");
        all.add("9007199254740993." + zeros + "1");
        all.add("9007199254740993." + zeros + "0");
        all.add(zeros + "12.5");
        all.add("0x" + zeros + "12.8p0");
        all.add("0x0." + zeros + "18p6004");
        all.add("0x0." + zeros + "1p4927");
        all.add("0x1" + zeros + "p-6000");
        all.add("0x1" + zeros + "1p-6004");
        all.add("0x1" + zeros + "p-7075");
        all.add("0x1" + zeros + "1p-7079");
        all.add("0x1." + zeros + "1p0");
        all.add("1e" + zeros + "5");
        all.add("1e-" + zeros + "5");
        all.add("1e5" + zeros);
        all.add("0x1p" + zeros + "5");
        all.add("9".repeat(1600));
        all.add("." + "9".repeat(1599));
        all.add("." + "9".repeat(1590) + "e-320");
        all.add("." + "9".repeat(1590) + "e-5");
        all.add("." + "4".repeat(1590) + "e308");
        all.add("0x" + "f".repeat(1590) + "p-6360");
        all.add("+" + zeros);
        all.add("-." + zeros);
    }
}
