import java.nio.charset.StandardCharsets;
import java.util.Arrays;

/** Counts the answers that are not as due, and drives objects within their 512 calls. */
final class Due {
    interface Call {
        long on(FloatTexts x);
    }

    private static final int CALLS_A_CHUNK = 400;
    private static final int SHOWN_AT_MOST = 40;
    private static int asked = 0;
    private static int wrong = 0;
    private static String under = "";

    private Due() {
    }

    /** What the answers from now on belong to; it is told with each that is wrong. */
    static void under(String what) {
        under = what + ": ";
    }

    static int asked() {
        return asked;
    }

    static void same(String what, long got, long want) {
        asked++;
        if (got != want) {
            tell(what + " answered " + got + ", due is " + want);
        }
    }

    static void same(String what, String got, String want) {
        asked++;
        if (!got.equals(want)) {
            tell(what + " answered " + got + ", due is " + want);
        }
    }

    static void holds(String what, boolean got) {
        asked++;
        if (!got) {
            tell(what + " does not hold");
        }
    }

    private static void tell(String line) {
        wrong++;
        if (wrong <= SHOWN_AT_MOST) {
            System.out.println(under + line);
        }
    }

    static void refuses(String what, FloatTexts x, Call call) {
        same(what, thrownBy(x, call), "IllegalArgumentException");
    }

    static void outside(String what, FloatTexts x, Call call) {
        same(what, thrownBy(x, call), "IndexOutOfBoundsException");
    }

    static String thrownBy(FloatTexts x, Call call) {
        try {
            call.on(x);
            return "nothing";
        } catch (RuntimeException e) {
            return e.getClass().getSimpleName();
        }
    }

    static void end(Class<?> test) {
        System.out.println(test.getSimpleName() + ": " + asked + " asked, " + wrong + " wrong");
        if (wrong != 0 || asked == 0) {
            System.exit(1);
        }
    }

    /** A new object whose TEXT is this. */
    static FloatTexts with(String text) {
        FloatTexts x = new FloatTexts();
        typeAll(x, text);
        return x;
    }

    static void typeAll(FloatTexts x, String text) {
        byte[] bytes = text.getBytes(StandardCharsets.ISO_8859_1);
        for (int from = 0; from < bytes.length; from += 8) {
            int n = Math.min(8, bytes.length - from);
            x.type(packed(Arrays.copyOfRange(bytes, from, from + n)), n);
        }
    }

    static long packed(byte[] bytes) {
        long sum = 0;
        for (int i = bytes.length - 1; i >= 0; i--) {
            sum = sum << 8 | bytes[i] & 255;
        }
        return sum;
    }

    /** The whole OUT that a call makes, and that the call answers its length. */
    static String outOf(Call call) {
        StringBuilder all = new StringBuilder();
        long length;
        do {
            FloatTexts x = new FloatTexts();
            length = call.on(x);
            int from = all.length();
            for (int i = from; i < length && i < from + CALLS_A_CHUNK; i++) {
                all.append((char) x.out(i));
            }
            if (!thrownBy(x, y -> y.out((int) call.on(y))).equals("IndexOutOfBoundsException")) {
                return "OUT is longer than " + length;
            }
        } while (all.length() < length);
        return all.toString();
    }

    /** THE DECIMAL after a call, as sign, digits and point. */
    static String decimalOf(Call call) {
        StringBuilder digits = new StringBuilder();
        String frame;
        int count;
        do {
            FloatTexts x = new FloatTexts();
            call.on(x);
            count = x.decimal(0);
            frame = (x.decimal(2) == 1 ? "-" : "+") + "@" + x.decimal(1) + ":";
            int from = digits.length();
            for (int i = from; i < count && i < from + CALLS_A_CHUNK; i++) {
                digits.append(x.digit(i));
            }
            if (!thrownBy(x, y -> y.digit(y.decimal(0))).equals("IndexOutOfBoundsException")) {
                return "THE DECIMAL is longer than " + count;
            }
        } while (digits.length() < count);
        return frame + digits;
    }

    static String hexOf(int format, long bits) {
        return "format " + format + " 0x" + Long.toHexString(bits);
    }
}
