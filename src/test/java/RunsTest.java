import java.math.BigDecimal;
import java.util.Random;

/** Runs of up to 512 calls, right and wrong ones mixed, each answer and all state told by a model beside the object. */
public final class RunsTest {
    private static final int CALLS = 512;
    private static final int CALLS_A_STEP = 12;
    private static final String REFUSED = "IllegalArgumentException";
    private static final String OUTSIDE = "IndexOutOfBoundsException";
    private static final String[] PIECES = {
        "0", "1", "25", "999", ".", "e", "e-3", "E+30", "0x", "p-1", "a", "f", "-", "+", "inf", "NaN", "inity", "4999999",
        "00000000", "e-320", "e308", "\u00e9"
    };

    private final Random random;
    private final FloatTexts x = new FloatTexts();
    private int calls = 0;
    private String text = "";
    private String out = "";
    private String digits = "";
    private int point = 0;
    private boolean minus = false;
    private long result = 0;
    private long flags = 0;

    private RunsTest(long seed) {
        random = new Random(seed);
    }

    public static void main(String[] args) {
        int runs = args.length > 0 ? Integer.parseInt(args[0]) : 400;
        long seed = args.length > 1 ? Long.parseLong(args[1]) : 1;
        for (int i = 0; i < runs; i++) {
            new RunsTest(seed * 1000003 + i).run();
        }
        Due.end(RunsTest.class);
    }

    private void run() {
        while (calls <= CALLS - CALLS_A_STEP) {
            step();
        }
    }

    private void step() {
        switch (random.nextInt(12)) {
            case 0: case 1: case 2: case 3: textsIn(); break;
            case 4: case 5: textsOut(); break;
            case 6: case 7: looking(); break;
            default: numbers(); break;
        }
    }

    private int format() {
        return random.nextInt(40) == 0 ? random.nextInt(12) - 6 : random.nextInt(4);
    }

    private int way() {
        return random.nextInt(40) == 0 ? random.nextInt(12) - 4 : random.nextInt(5);
    }

    private int form() {
        return random.nextInt(40) == 0 ? random.nextInt(9) - 4 : random.nextInt(3);
    }

    private long pattern(int f) {
        if (f < 0 || f > 3 || random.nextInt(30) == 0) {
            return random.nextLong();
        }
        long all = Model.BITS[f] == 64 ? -1L : (1L << Model.BITS[f]) - 1;
        switch (random.nextInt(5)) {
            case 0: return Samples.edges(f).get(random.nextInt(Samples.edges(f).size()));
            case 1: return random.nextLong() & 7;
            case 2: return result & all;
            case 3: return (random.nextLong() & Model.infinite(f)) & all;
            default: return random.nextLong() & all;
        }
    }

    private static boolean okFormat(int f) {
        return f >= 0 && f < 4;
    }

    private static boolean ok(int f, long bits) {
        return okFormat(f) && (Model.BITS[f] == 64 || bits >>> Model.BITS[f] == 0);
    }

    private static boolean okWay(int way) {
        return way >= 0 && way < 5;
    }

    private static boolean okForm(int form) {
        return form >= 0 && form < 3;
    }

    private void due(String what, Due.Call call, boolean right, Long want) {
        Due.same(what, answer(call), right ? "" + want : REFUSED);
    }

    private void textsIn() {
        switch (random.nextInt(7)) {
            case 0: case 1: case 2: typing(); break;
            case 3:
                boolean room = text.length() + out.length() <= 1600;
                text = room ? text + out : text;
                due("pass", y -> y.pass(), true, room ? (long) text.length() : -1L);
                break;
            case 4:
                due("clear", y -> y.clear(), true, (long) text.length());
                text = "";
                break;
            default: reading(); break;
        }
    }

    private void typing() {
        String piece = PIECES[random.nextInt(PIECES.length)];
        if (random.nextInt(4) == 0) {
            piece = "" + random.nextInt(1000000);
        }
        int n = random.nextInt(30) == 0 ? random.nextInt(30) - 10 : piece.length();
        long bytes = Due.packed(piece.getBytes(java.nio.charset.StandardCharsets.ISO_8859_1));
        boolean right = n >= 0 && n <= 8;
        boolean room = right && text.length() + n <= 1600;
        if (room) {
            StringBuilder longer = new StringBuilder(text);
            for (int i = 0; i < n; i++) {
                longer.append(i < piece.length() ? piece.charAt(i) : (char) 0);
            }
            text = longer.toString();
        }
        due("type", y -> y.type(bytes, n), right, room ? (long) text.length() : -1L);
    }

    private void reading() {
        int f = format();
        int way = way();
        boolean right = okFormat(f) && okWay(way);
        int fault = Model.fault(text);
        due("read of " + text, y -> y.read(f, way), right, fault < 0 ? 0L : -1L - fault);
        if (right && fault < 0) {
            keep(Model.read(f, text, way));
        }
        lookAtResult("read(" + f + ", " + way + ") of " + text);
        if (random.nextInt(3) != 0) {
            due("clear", y -> y.clear(), true, (long) text.length());
            text = "";
        }
    }

    private void keep(long[] rounded) {
        result = rounded[0];
        flags = rounded[1];
    }

    private void lookAtResult(String what) {
        due(what + ": result", y -> y.result(), true, result);
        due(what + ": flags", y -> y.flags(), true, flags);
    }

    private void textsOut() {
        int f = format();
        long bits = pattern(f);
        int form = form();
        int way = way();
        int kind = ok(f, bits) ? Model.kind(f, bits) : 4;
        int n = random.nextInt(5) == 0 ? random.nextInt(1130) - 10 : random.nextInt(30);
        String what = " of " + Due.hexOf(f, bits) + ", n " + n + ", way " + way + ", form " + form;
        boolean right = ok(f, bits);
        switch (random.nextInt(6)) {
            case 0:
                right = right && okForm(form);
                BigDecimal shortest = right && kind != 0 && kind < 3 ? Model.shortest(f, bits) : BigDecimal.ZERO;
                tell(right, f, bits, Model.digitsOf(shortest), Model.pointOf(shortest), form);
                due("shortest" + what, y -> y.shortest(f, bits, form), right, (long) out.length());
                break;
            case 1:
                right = right && okForm(form);
                BigDecimal exact = right && kind < 3 ? Model.size(f, bits) : BigDecimal.ZERO;
                tell(right, f, bits, Model.digitsOf(exact), Model.pointOf(exact), form);
                due("exact" + what, y -> y.exact(f, bits, form), right, (long) out.length());
                break;
            case 2:
                right = right && okForm(form) && kind < 3;
                BigDecimal middle = right ? Model.middle(f, bits) : BigDecimal.ZERO;
                tell(right, f, bits, Model.digitsOf(middle), Model.pointOf(middle), form);
                due("middle" + what, y -> y.middle(f, bits, form), right, (long) out.length());
                break;
            case 3:
                right = right && okForm(form) && okWay(way) && n >= 1 && n <= 800;
                BigDecimal some = right && kind < 3 ? Model.toDigits(f, bits, n, way) : BigDecimal.ZERO;
                tell(right, f, bits, Model.padded(Model.digitsOf(some), n), Model.pointOf(some), form);
                due("digits" + what, y -> y.digits(f, bits, n, way, form), right, (long) out.length());
                break;
            case 4:
                right = right && okWay(way) && n >= 0 && n <= 1100;
                BigDecimal fixed = right && kind < 3 ? Model.toDecimals(f, bits, n, way) : BigDecimal.ZERO;
                String all = fixed.signum() == 0 ? "0".repeat(Math.max(n, 0) + 1) : fixed.unscaledValue().toString();
                tell(right, f, bits, all, Model.pointOf(fixed), 1);
                due("fixed" + what, y -> y.fixed(f, bits, n, way), right, (long) out.length());
                break;
            default:
                if (right) {
                    tellNone(f, bits, kind < 3 ? Model.hex(f, bits) : Model.name(f, bits));
                }
                due("hex" + what, y -> y.hex(f, bits), right, (long) out.length());
                break;
        }
    }

    private void tellNone(int f, long bits, String made) {
        out = made;
        digits = "";
        point = 0;
        minus = Model.minus(f, bits);
    }

    private void tell(boolean right, int f, long bits, String all, int at, int form) {
        if (!right) {
            return;
        }
        if (Model.kind(f, bits) > 2) {
            tellNone(f, bits, Model.name(f, bits));
            return;
        }
        digits = all;
        point = at;
        minus = Model.minus(f, bits);
        out = Model.text(minus, digits, point, form);
    }

    private void looking() {
        int what = random.nextInt(5) - 1;
        due("decimal(" + what + ")", y -> y.decimal(what), what >= 0 && what <= 2,
            what == 0 ? (long) digits.length() : what == 1 ? (long) point : minus ? 1L : 0L);
        int i = random.nextInt(Math.max(1, out.length()) + 2) - 1;
        String byteGot = answer(y -> y.out(i));
        Due.same("out(" + i + ")", byteGot, i >= 0 && i < out.length() ? "" + (int) out.charAt(i) : OUTSIDE);
        int j = random.nextInt(Math.max(1, digits.length()) + 2) - 1;
        String digitGot = answer(y -> y.digit(j));
        Due.same("digit(" + j + ")", digitGot, j >= 0 && j < digits.length() ? "" + digits.charAt(j) : OUTSIDE);
        lookAtResult("looking");
    }

    private String answer(Due.Call call) {
        calls++;
        try {
            return "" + call.on(x);
        } catch (RuntimeException e) {
            return e.getClass().getSimpleName();
        }
    }

    private void numbers() {
        int f = format();
        int way = way();
        long m = random.nextInt(20) == 0 ? 0 : random.nextLong() >> random.nextInt(64);
        int e = random.nextInt(3) == 0 ? random.nextInt(10400) - 5200 : random.nextInt(700) - 350;
        boolean okTens = e >= -5000 && e <= 5000;
        String what = "(" + f + ", " + m + ", " + e + ", " + way + ")";
        switch (random.nextInt(5)) {
            case 0:
                boolean right = okFormat(f) && okWay(way) && okTens;
                if (right) {
                    keep(Model.roundSigned(f, BigDecimal.valueOf(m).scaleByPowerOfTen(e), way));
                }
                due("nearest" + what, y -> y.nearest(f, m, e, way), right, result);
                break;
            case 1:
                boolean fine = okFormat(f) && okWay(way);
                int power = random.nextInt(9) == 0 ? random.nextInt() : random.nextInt(2400) - 1200;
                if (fine) {
                    int near = Math.max(-3000, Math.min(3000, power));
                    keep(Model.roundSigned(f, BigDecimal.valueOf(m).multiply(Model.two(near)), way));
                }
                due("power " + power + what, y -> y.power(f, m, power, way), fine, result);
                break;
            case 2:
                long bits = pattern(f);
                boolean told = ok(f, bits) && okTens;
                boolean same = told && Model.roundSigned(f, BigDecimal.valueOf(m).scaleByPowerOfTen(e), 0)[0] == bits;
                due("reads" + what, y -> y.reads(f, bits, m, e) ? 1 : 0, told, same ? 1L : 0L);
                long held = pattern(f);
                int kind = ok(f, held) ? Model.kind(f, held) : 4;
                due("holds" + Due.hexOf(f, held), y -> y.holds(f, held) ? 1 : 0, kind == 1 || kind == 2, 1L);
                break;
            default:
                patterns(f, way);
                break;
        }
        lookAtResult("numbers" + what);
    }

    private void patterns(int f, int way) {
        long a = pattern(f);
        long b = pattern(f);
        int to = format();
        boolean up = random.nextBoolean();
        boolean right = ok(f, a) && ok(f, b);
        boolean nan = right && (Model.kind(f, a) == 4 || Model.kind(f, b) == 4);
        String pair = " of 0x" + Long.toHexString(b) + ", " + Due.hexOf(f, a);
        if (ok(f, a) && okFormat(to) && okWay(way)) {
            keep(NumbersTest.converted(f, a, to, way));
            due("convert to " + to + " by " + way + pair, y -> y.convert(f, a, to, way), true, result);
        } else {
            due("convert to " + to + " by " + way + pair, y -> y.convert(f, a, to, way), false, 0L);
        }
        due("kind" + pair, y -> y.kind(f, a), ok(f, a), ok(f, a) ? (long) Model.kind(f, a) : 0L);
        due("next" + pair, y -> y.next(f, a, up), ok(f, a), ok(f, a) ? NumbersTest.nextOf(f, a, up) : 0L);
        due("steps" + pair, y -> y.steps(f, a, b), right && !nan, right ? NumbersTest.stepsOf(f, a, b) : 0L);
        due("compare" + pair, y -> y.compare(f, a, b), right,
            nan ? 2L : right ? (long) NumbersTest.place(f, a).compareTo(NumbersTest.place(f, b)) : 0L);
        due("order" + pair, y -> y.order(f, a, b), right,
            right ? (long) NumbersTest.rank(f, a).compareTo(NumbersTest.rank(f, b)) : 0L);
    }
}
