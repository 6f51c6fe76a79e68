import java.math.BigDecimal;
import java.util.Random;

/** Promises 1 to 7: a new object, type, pass, clear, read, result, flags. */
public final class TextsInTest {
    private static final String[] MIXED = {
        "+", "-", ".", "0", "1", "9", "5", "e", "E", "x", "X", "p", "P", "a", "F", "i", "n", "f", "N", "inf", "nan",
        "infinity", "0x", "1.5", "e5", "p-3", " ", "g"
    };

    public static void main(String[] args) {
        newObject();
        typing();
        typingEveryByte();
        passing();
        clearing();
        readingChangesOnlyTheResult();
        for (String text : Samples.texts()) {
            readAllWays(text);
        }
        mixedTexts();
        middles();
        hairs();
        nothingStaysOfTextsBefore();
        longNumerals();
        randomNumerals();
        wrongCalls();
        Due.end(TextsInTest.class);
    }

    private static void newObject() {
        FloatTexts x = new FloatTexts();
        Due.same("NONE", FloatTexts.NONE, -1);
        Due.same("new: result", x.result(), 0);
        Due.same("new: flags", x.flags(), 0);
        Due.same("new: digits", x.decimal(0), 0);
        Due.same("new: point", x.decimal(1), 0);
        Due.same("new: sign", x.decimal(2), 0);
        Due.outside("new: out(0)", x, y -> y.out(0));
        Due.outside("new: digit(0)", x, y -> y.digit(0));
        Due.same("new: pass", x.pass(), 0);
        Due.same("new: read", x.read(0, 0), -1);
        Due.same("new: clear", x.clear(), 0);
        Due.same("new: type nothing", x.type(-1, 0), 0);
    }

    private static void typing() {
        FloatTexts x = new FloatTexts();
        Due.same("type 3", x.type(0xff_35_2e_31L, 3), 3);
        Due.same("read 1.5", x.read(0, 0), 0);
        Due.same("1.5", x.result(), Double.doubleToRawLongBits(1.5));
        for (int i = 0; i < 199; i++) {
            Due.same("type 8", x.type(0x3030303030303030L, 8), 3 + 8 * (i + 1));
        }
        Due.same("type to 1600 and 3", x.type(0x30303030L, 8), -1);
        Due.same("type beyond", x.type(0x30303030303030L, 6), -1);
        Due.same("nothing came", x.type(0, 0), 1595);
        Due.same("type to 1600", x.type(0x3030303030L, 5), 1600);
        Due.same("type one more", x.type(0x30, 1), -1);
        Due.same("type no more", x.type(0x30, 0), 1600);
        Due.same("read all", x.read(0, 0), 0);
        Due.same("1.5 still", x.result(), Double.doubleToRawLongBits(1.5));
        Due.same("clear all", x.clear(), 1600);
    }

    /** Each byte is there by its value: behind a digit most are a fault, and which are not is told. */
    private static void typingEveryByte() {
        for (int b = 0; b < 256; b++) {
            FloatTexts x = new FloatTexts();
            Due.same("type byte " + b, x.type(0x31L | (long) b << 8 | 0xff00000000L, 2), 2);
            int fault = Model.fault("1" + (char) b);
            Due.same("read byte " + b, x.read(0, 0), fault < 0 ? 0 : -1 - fault);
            FloatTexts first = new FloatTexts();
            first.type(b, 1);
            fault = Model.fault("" + (char) b);
            Due.same("read byte alone " + b, first.read(0, 0), fault < 0 ? 0 : -1 - fault);
        }
    }

    private static void passing() {
        FloatTexts x = new FloatTexts();
        x.type('-', 1);
        Due.same("fixed 1/4", x.fixed(0, Double.doubleToRawLongBits(0.25), 2, 0), 4);
        Due.same("pass", x.pass(), 5);
        Due.same("read", x.read(0, 0), 0);
        Due.same("-0.25", x.result(), Double.doubleToRawLongBits(-0.25));
        Due.same("pass again", x.pass(), 9);
        Due.same("a second point", x.read(0, 0), -1 - 6);
        Due.same("OUT stays", x.out(3), '5');
        Due.same("make 1102", x.fixed(0, Double.doubleToRawLongBits(1.0), 1100, 0), 1102);
        Due.same("pass 1102", x.pass(), 1111);
        Due.same("make 491", x.fixed(0, 0, 488, 0), 490);
        Due.same("pass beyond", x.pass(), -1);
        Due.same("nothing came", x.type(0, 0), 1111);
        Due.same("make 489", x.fixed(0, 0, 487, 0), 489);
        Due.same("pass to 1600", x.pass(), 1600);
        Due.same("pass no more", x.pass(), -1);
        Due.same("clear", x.clear(), 1600);
        Due.same("pass alone", x.pass(), 489);
    }

    private static void clearing() {
        FloatTexts x = Due.with("12345");
        Due.same("clear", x.clear(), 5);
        Due.same("clear again", x.clear(), 0);
        Due.same("nothing to read", x.read(0, 0), -1);
        Due.typeAll(x, "7");
        Due.same("read what came since", x.read(0, 0), 0);
        Due.same("7", x.result(), Double.doubleToRawLongBits(7.0));
    }

    private static void readingChangesOnlyTheResult() {
        FloatTexts x = Due.with("1e400");
        x.shortest(0, Double.doubleToRawLongBits(-2.5), 1);
        Due.same("read", x.read(0, 2), 0);
        Due.same("result", x.result(), 0x7fefffffffffffffL);
        Due.same("flags", x.flags(), 3);
        Due.same("OUT stays", x.out(1), '2');
        Due.same("the decimal stays", x.decimal(0) * 100 + x.decimal(1) * 10 + x.decimal(2), 211);
        Due.typeAll(x, "x");
        Due.same("fault", x.read(0, 0), -6);
        Due.same("result stays", x.result(), 0x7fefffffffffffffL);
        Due.same("flags stay", x.flags(), 3);
        Due.same("TEXT stays", x.clear(), 6);
    }

    static void readAllWays(String text) {
        int fault = Model.fault(text);
        for (int f = 0; f < 4; f++) {
            FloatTexts x = Due.with(text);
            for (int way = 0; way < 5; way++) {
                String what = "read(" + f + ", " + way + ") of " + text;
                Due.same(what, x.read(f, way), fault < 0 ? 0 : -1 - fault);
                long[] want = fault < 0 ? Model.read(f, text, way) : new long[] {0, 0};
                Due.same(what + ": result", x.result(), want[0]);
                Due.same(what + ": flags", x.flags(), want[1]);
            }
        }
    }

    private static void mixedTexts() {
        Random random = new Random(5);
        for (int i = 0; i < 20000; i++) {
            StringBuilder text = new StringBuilder();
            int parts = random.nextInt(8);
            for (int j = 0; j < parts; j++) {
                text.append(MIXED[random.nextInt(MIXED.length)]);
            }
            readOneWay(text.toString(), random);
        }
    }

    static void readOneWay(String text, Random random) {
        int f = random.nextInt(4);
        int way = random.nextInt(5);
        int fault = Model.fault(text);
        FloatTexts x = Due.with(text);
        String what = "read(" + f + ", " + way + ") of " + text;
        Due.same(what, x.read(f, way), fault < 0 ? 0 : -1 - fault);
        long[] want = fault < 0 ? Model.read(f, text, way) : new long[] {0, 0};
        Due.same(what + ": result", x.result(), want[0]);
        Due.same(what + ": flags", x.flags(), want[1]);
    }

    /** Where roundings part: the middles themselves, and a last digit more or less than them. */
    private static void middles() {
        for (int f = 0; f < 4; f++) {
            for (long bits : Samples.finite(f, 60, 11)) {
                BigDecimal middle = Model.middle(f, bits);
                String sign = Model.minus(f, bits) ? "-" : "";
                readAllWays(sign + middle.toString());
                BigDecimal hair = BigDecimal.ONE.scaleByPowerOfTen(-1590 + Math.max(0, middle.precision() - middle.scale()));
                readAllWays(sign + middle.add(hair).toPlainString());
                readAllWays(sign + middle.subtract(hair.movePointRight(300)).toPlainString());
                readAllWays(sign + Model.size(f, bits).toString());
            }
        }
    }

    /** A digit that is far behind all others makes another number, wherever it is. */
    private static void hairs() {
        Random random = new Random(14);
        BigDecimal[] numbers = {
            BigDecimal.ONE, Model.two(60), Model.two(100), Model.two(200), Model.two(500), Model.two(1000), Model.two(1023),
            Model.two(-20), Model.middle(0, Double.doubleToRawLongBits(1.0)), Model.middle(1, 0x3f800000L),
            Model.middle(2, 0x3c00), Model.middle(3, 0x3f80), Model.middle(0, Double.doubleToRawLongBits(0x1p900))
        };
        for (BigDecimal number : numbers) {
            for (int p : new int[] {1, 40, 200, 700, 1000, 1070, 1071, 1072, 1079, 1080, 1081, 1082, 1088, 1089, 1090, 1091, 1098, 1099,
                    1100, 1200, 1280}) {
                BigDecimal hair = BigDecimal.ONE.scaleByPowerOfTen(-p);
                readOneWay(number.add(hair).toPlainString(), random);
                readOneWay("-" + number.add(hair).toPlainString(), random);
                readOneWay(number.subtract(hair).toPlainString(), random);
                readOneWay(number.setScale(p, java.math.RoundingMode.DOWN).toPlainString(), random);
            }
        }
    }

    /** Long texts, a new one behind each on the same object. */
    private static void nothingStaysOfTextsBefore() {
        String[] texts = {
            "1." + "0".repeat(1200) + "1", "1.5", "1e-300", "0." + "0".repeat(1070) + "123456789123", "2", "9".repeat(300), "0.5",
            "5e-324", "1e300", "0." + "9".repeat(1079), "1." + "0".repeat(1079) + "7", "0x1.8p0", "0." + "3".repeat(1500),
            "1e-5", "12.5e-1", "0x1.00000000000000001", "3"
        };
        for (String before : texts) {
            for (String text : texts) {
                FloatTexts x = new FloatTexts();
                for (String each : new String[] {before, text}) {
                    x.clear();
                    Due.typeAll(x, each);
                    long[] want = Model.read(0, each, 0);
                    Due.same("read of " + each, x.read(0, 0), 0);
                    Due.same("result of " + each, x.result(), want[0]);
                    Due.same("flags of " + each, x.flags(), want[1]);
                }
                Due.same("0.5 in many decimals", x.fixed(0, Double.doubleToRawLongBits(0.5), 1080, 0), 1082);
                for (int i = 1060; i < 1080; i++) {
                    Due.same("digit " + i + " of 0.5 behind " + text, x.digit(i), 0);
                }
                x.exact(0, Double.doubleToRawLongBits(0.5), 1);
                Due.same("0.5 behind texts", x.decimal(0) * 100 + x.decimal(1) * 10 + x.digit(0), 105);
                x.nearest(0, 5, -1, 0);
                Due.same("5e-1 behind texts", x.result(), Double.doubleToRawLongBits(0.5));
                Due.same("its flags", x.flags(), 0);
            }
        }
    }

    private static void longNumerals() {
        Random random = new Random(7);
        for (int i = 0; i < 600; i++) {
            int count = 600 + random.nextInt(980);
            StringBuilder digits = new StringBuilder();
            for (int j = 0; j < count; j++) {
                digits.append(random.nextInt(4) == 0 ? random.nextInt(10) : 9 * (i % 2));
            }
            digits.insert(random.nextInt(count), '.');
            String text = digits + "e" + (random.nextInt(2200) - 1400);
            readOneWay(text.length() <= 1600 ? text : text.substring(0, 1590), random);
        }
    }

    private static void randomNumerals() {
        Random random = new Random(8);
        for (int i = 0; i < 15000; i++) {
            StringBuilder text = new StringBuilder(random.nextBoolean() ? "-" : "");
            boolean hexadecimal = i % 3 == 0;
            text.append(hexadecimal ? "0x" : "");
            int count = 1 + random.nextInt(22);
            int point = random.nextInt(count + 1);
            for (int j = 0; j < count; j++) {
                text.append(j == point ? "." : "");
                text.append(Integer.toHexString(random.nextInt(hexadecimal ? 16 : 10)));
            }
            int span = new int[] {8, 50, 340, 1100}[random.nextInt(4)];
            text.append(hexadecimal ? "p" : "e").append(random.nextInt(2 * span) - span);
            readOneWay(text.toString(), random);
        }
    }

    private static void wrongCalls() {
        FloatTexts x = Due.with("1");
        Due.refuses("type(0, -1)", x, y -> y.type(0, -1));
        Due.refuses("type(0, 9)", x, y -> y.type(0, 9));
        Due.refuses("type, least n", x, y -> y.type(0, Integer.MIN_VALUE));
        Due.refuses("type, greatest n", x, y -> y.type(0, Integer.MAX_VALUE));
        for (int wrong : new int[] {-1, 4, 5, Integer.MIN_VALUE, Integer.MAX_VALUE}) {
            Due.refuses("read, format " + wrong, x, y -> y.read(wrong, 0));
        }
        for (int wrong : new int[] {-1, 5, 6, Integer.MIN_VALUE, Integer.MAX_VALUE}) {
            Due.refuses("read, way " + wrong, x, y -> y.read(0, wrong));
        }
        Due.same("TEXT is as before", x.clear(), 1);
        Due.same("the result is as before", x.result(), 0);
        Due.refuses("read of an empty text, wrong format", x, y -> y.read(4, 0));
    }
}
