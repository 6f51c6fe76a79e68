import java.math.BigDecimal;
import java.math.BigInteger;
import java.math.MathContext;
import java.math.RoundingMode;
import java.util.regex.Matcher;
import java.util.regex.Pattern;

/** What the document asks, said again with the library's big numbers and as literally as can be. */
final class Model {
    static final int[] BITS = {64, 32, 16, 16};
    static final int[] P = {53, 24, 11, 8};
    static final int[] E = {1023, 127, 15, 127};

    private static final BigDecimal[] TWOS = new BigDecimal[2400];
    private static final RoundingMode[] WAYS = {
        RoundingMode.HALF_EVEN, RoundingMode.HALF_UP, RoundingMode.DOWN,
        RoundingMode.CEILING, RoundingMode.FLOOR
    };

    private static final String HEX = "[0-9a-fA-F]";
    private static final Pattern WHOLE = Pattern.compile(
        "[+-]?(?:[iI][nN][fF](?:[iI][nN][iI][tT][yY])?|[nN][aA][nN]"
        + "|(?:[0-9]+\\.?[0-9]*|\\.[0-9]+)(?:[eE][+-]?[0-9]+)?"
        + "|0[xX](?:" + HEX + "+\\.?" + HEX + "*|\\." + HEX + "+)(?:[pP][+-]?[0-9]+)?)");
    private static final Pattern BEGUN = Pattern.compile(
        "[+-]?(?:|[iI](?:[nN](?:[fF](?:[iI](?:[nN](?:[iI](?:[tT][yY]?)?)?)?)?)?)?|[nN](?:[aA][nN]?)?"
        + "|[0-9]*\\.?[0-9]*|(?:[0-9]+\\.?[0-9]*|\\.[0-9]+)[eE][+-]?[0-9]*"
        + "|0[xX]" + HEX + "*\\.?" + HEX + "*"
        + "|0[xX](?:" + HEX + "+\\.?" + HEX + "*|\\." + HEX + "+)[pP][+-]?[0-9]*)");
    private static final Pattern DECIMAL = Pattern.compile("([0-9]*)\\.?([0-9]*)(?:[eE]([+-]?[0-9]+))?");
    private static final Pattern HEXADECIMAL =
        Pattern.compile("0[xX](" + HEX + "*)\\.?(" + HEX + "*)(?:[pP]([+-]?[0-9]+))?");

    private Model() {
    }

    static long signBit(int f) {
        return 1L << (BITS[f] - 1);
    }

    static long infinite(int f) {
        return signBit(f) - (1L << (P[f] - 1));
    }

    static boolean minus(int f, long bits) {
        return (bits & signBit(f)) != 0;
    }

    static long unsigned(int f, long bits) {
        return bits & ~signBit(f);
    }

    static long signed(int f, boolean minus, long size) {
        return minus ? size | signBit(f) : size;
    }

    static int kind(int f, long bits) {
        long s = unsigned(f, bits);
        if (s == 0) {
            return 0;
        }
        if (s < 1L << (P[f] - 1)) {
            return 1;
        }
        return s < infinite(f) ? 2 : s == infinite(f) ? 3 : 4;
    }

    static BigDecimal two(int k) {
        int i = k + 1200;
        if (i < 0 || i >= TWOS.length) {
            return makeTwo(k);
        }
        if (TWOS[i] == null) {
            TWOS[i] = makeTwo(k);
        }
        return TWOS[i];
    }

    private static BigDecimal makeTwo(int k) {
        return k >= 0 ? new BigDecimal(BigInteger.TWO.pow(k)) : new BigDecimal(BigInteger.valueOf(5).pow(-k), -k);
    }

    /** The size; the infinite pattern counts as 2^(E+1). */
    static BigDecimal size(int f, long bits) {
        long s = unsigned(f, bits);
        long x = s >>> (P[f] - 1);
        long y = s & ((1L << (P[f] - 1)) - 1);
        if (x == 0) {
            return BigDecimal.valueOf(y).multiply(two(2 - E[f] - P[f]));
        }
        return BigDecimal.valueOf((1L << (P[f] - 1)) + y).multiply(two((int) x + 1 - E[f] - P[f]));
    }

    static BigDecimal middle(int f, long bits) {
        return size(f, bits).add(size(f, unsigned(f, bits) + 1)).multiply(new BigDecimal("0.5"));
    }

    /** Pattern and flags of a size above 0, rounded. */
    static long[] round(int f, boolean minus, BigDecimal size, int way) {
        if (size.compareTo(size(f, infinite(f))) >= 0) {
            return overflow(f, minus, way);
        }
        long low = 0;
        long high = infinite(f);
        while (high - low > 1) {
            long mid = low + (high - low) / 2;
            if (size(f, mid).compareTo(size) <= 0) {
                low = mid;
            } else {
                high = mid;
            }
        }
        if (size(f, low).compareTo(size) == 0) {
            return new long[] {signed(f, minus, low), 0};
        }
        int nearness = size.subtract(size(f, low)).compareTo(size(f, high).subtract(size));
        boolean up;
        switch (way) {
            case 0: up = nearness > 0 || nearness == 0 && (low & 1) == 1; break;
            case 1: up = nearness >= 0; break;
            case 2: up = false; break;
            case 3: up = !minus; break;
            default: up = minus; break;
        }
        long chosen = up ? high : low;
        if (chosen == infinite(f)) {
            return overflow(f, minus, way);
        }
        return new long[] {signed(f, minus, chosen), kind(f, chosen) <= 1 ? 5 : 1};
    }

    private static long[] overflow(int f, boolean minus, int way) {
        boolean toInfinite = way <= 1 || way == 3 && !minus || way == 4 && minus;
        return new long[] {signed(f, minus, toInfinite ? infinite(f) : infinite(f) - 1), 3};
    }

    static long[] roundSigned(int f, BigDecimal value, int way) {
        if (value.signum() == 0) {
            return new long[] {0, 0};
        }
        return round(f, value.signum() < 0, value.abs(), way);
    }

    /** NONE (-1), or the place of the fault. */
    static int fault(String text) {
        if (WHOLE.matcher(text).matches()) {
            return -1;
        }
        for (int i = 0; i < text.length(); i++) {
            if (!BEGUN.matcher(text.substring(0, i + 1)).matches()) {
                return i;
            }
        }
        return text.length();
    }

    static long[] read(int f, String text, int way) {
        boolean minus = text.startsWith("-");
        String body = text.startsWith("-") || text.startsWith("+") ? text.substring(1) : text;
        if (body.startsWith("i") || body.startsWith("I")) {
            return new long[] {signed(f, minus, infinite(f)), 0};
        }
        if (body.startsWith("n") || body.startsWith("N")) {
            return new long[] {signed(f, minus, infinite(f) | 1L << (P[f] - 2)), 0};
        }
        BigDecimal size = valueOf(body);
        if (size.signum() == 0) {
            return new long[] {signed(f, minus, 0), 0};
        }
        return round(f, minus, size, way);
    }

    private static BigDecimal valueOf(String body) {
        Matcher hex = HEXADECIMAL.matcher(body);
        if (hex.matches()) {
            BigInteger digits = new BigInteger("0" + hex.group(1) + hex.group(2), 16);
            int e = clamped(hex.group(3), 20000);
            return new BigDecimal(digits).multiply(two(e - 4 * hex.group(2).length()));
        }
        Matcher decimal = DECIMAL.matcher(body);
        if (!decimal.matches()) {
            throw new IllegalStateException(body);
        }
        BigInteger digits = new BigInteger("0" + decimal.group(1) + decimal.group(2));
        return new BigDecimal(digits, decimal.group(2).length() - clamped(decimal.group(3), 100000));
    }

    private static int clamped(String exponent, int most) {
        if (exponent == null) {
            return 0;
        }
        BigInteger limit = BigInteger.valueOf(most);
        return new BigInteger(exponent).min(limit).max(limit.negate()).intValue();
    }

    /** The shortest decimal of a number other than 0, tried digit by digit. */
    static BigDecimal shortest(int f, long bits) {
        BigDecimal size = size(f, bits);
        long want = unsigned(f, bits);
        for (int n = 1; ; n++) {
            BigDecimal below = size.round(new MathContext(n, RoundingMode.DOWN));
            BigDecimal above = size.round(new MathContext(n, RoundingMode.UP));
            boolean down = round(f, false, below, 0)[0] == want;
            boolean up = round(f, false, above, 0)[0] == want;
            if (down && up) {
                return size.round(new MathContext(n, RoundingMode.HALF_EVEN));
            }
            if (down || up) {
                return down ? below : above;
            }
        }
    }

    /** A told decimal: its digits, its point, as Due.decimalOf writes them. */
    static String decimal(boolean minus, String digits, int point) {
        return (minus ? "-" : "+") + "@" + point + ":" + digits;
    }

    static String digitsOf(BigDecimal size) {
        return size.signum() == 0 ? "0" : size.stripTrailingZeros().unscaledValue().toString();
    }

    static int pointOf(BigDecimal size) {
        return size.signum() == 0 ? 1 : size.precision() - size.scale();
    }

    static String padded(String digits, int n) {
        return digits + "0".repeat(Math.max(0, n - digits.length()));
    }

    static BigDecimal toDigits(int f, long bits, int n, int way) {
        BigDecimal value = minus(f, bits) ? size(f, bits).negate() : size(f, bits);
        return value.round(new MathContext(n, WAYS[way])).abs();
    }

    static BigDecimal toDecimals(int f, long bits, int n, int way) {
        BigDecimal value = minus(f, bits) ? size(f, bits).negate() : size(f, bits);
        return value.setScale(n, WAYS[way]).abs();
    }

    static String text(boolean minus, String digits, int point, int form) {
        String sign = minus ? "-" : "";
        if (form == 1 || form == 2 && point - 1 >= -6 && point - 1 <= 20) {
            BigDecimal size = new BigDecimal(new BigInteger(digits), digits.length() - point);
            return sign + size.toPlainString();
        }
        String behind = digits.length() > 1 ? "." + digits.substring(1) : "";
        return sign + digits.charAt(0) + behind + "e" + (point - 1);
    }

    static String name(int f, long bits) {
        return (minus(f, bits) ? "-" : "") + (kind(f, bits) == 3 ? "inf" : "nan");
    }

    static String hex(int f, long bits) {
        String sign = minus(f, bits) ? "-" : "";
        long s = unsigned(f, bits);
        if (s == 0) {
            return sign + "0x0p0";
        }
        int exponent = 0;
        BigDecimal size = size(f, bits);
        while (size.compareTo(two(exponent)) < 0) {
            exponent--;
        }
        while (size.compareTo(two(exponent + 1)) >= 0) {
            exponent++;
        }
        StringBuilder digits = new StringBuilder();
        BigDecimal rest = size.multiply(two(-exponent)).subtract(BigDecimal.ONE);
        while (rest.signum() != 0) {
            rest = rest.multiply(BigDecimal.valueOf(16));
            BigInteger digit = rest.toBigInteger();
            digits.append(digit.toString(16));
            rest = rest.subtract(new BigDecimal(digit));
        }
        return sign + "0x1" + (digits.length() > 0 ? "." + digits : "") + "p" + exponent;
    }
}
