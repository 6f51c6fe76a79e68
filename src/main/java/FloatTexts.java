/**
 * Numbers of four binary formats and their texts: written as shortest, exact, rounded and
 * hexadecimal texts, read back and rounded rightly, compared, stepped and converted.
 *
 * <p>All rows are made with the object and used again by every call; no call makes an object.
 */
public final class FloatTexts {
    public static final int NONE = -1;

    private static final int TEXT_ROOM = 1600;
    private static final int OUT_ROOM = 1500;
    private static final int MOST_TYPED = 8;
    private static final int MOST_WAY = 4;
    private static final int MOST_DIGITS = 800;
    private static final int MOST_DECIMALS = 1100;
    private static final int MOST_TENS = 5000;
    private static final int LONG_DIGITS = 19;
    private static final int PLAIN = 1;
    private static final int PLAIN_OR_NOT = 2;
    /** Exponents of 10 with which the form that may be plain is so. */
    private static final int LEAST_PLAIN = -6;
    private static final int MOST_PLAIN = 20;

    private static final int NEAREST_EVEN = 0;
    private static final int NEAREST_AWAY = 1;
    private static final int TO_GREATER = 3;
    private static final int TO_LESSER = 4;

    /** What is left behind the last place that is kept. */
    private static final int REST_NONE = 0;
    private static final int REST_BELOW_HALF = 1;
    private static final int REST_HALF = 2;
    private static final int REST_ABOVE_HALF = 3;

    /** Decimals with a point outside of these are far from all numbers of all formats. */
    private static final int HIGHEST_POINT = 310;
    private static final int LOWEST_POINT = -330;
    /** A power of 2 that is far from all numbers of all formats; less it is far below them. */
    private static final int FAR_POWER = 2000;

    /** 17 digits tell every number of the widest format apart. */
    private static final int MOST_SHORTEST = 20;

    private static final Format[] FORMATS = Format.values();

    private final ByteRow text;
    private final ByteRow made;
    private final Decimal told;
    private final Scan scan;
    private final Rounding rounding;
    private final Row number;
    private final Row low;
    private final Row high;
    private final Row candidate;
    private long resultPattern;
    private int resultFlags;

    public FloatTexts() {
        text = new ByteRow(TEXT_ROOM);
        made = new ByteRow(OUT_ROOM);
        told = new Decimal();
        scan = new Scan();
        rounding = new Rounding();
        number = new Row();
        low = new Row();
        high = new Row();
        candidate = new Row();
        resultPattern = 0;
        resultFlags = 0;
    }

    // ---- texts in

    public int type(long bytes, int n) throws IllegalArgumentException {
        if (n < 0 || n > MOST_TYPED) {
            throw new IllegalArgumentException("n is not 0 .. 8");
        }
        if (n > text.room()) {
            return NONE;
        }
        for (int i = 0; i < n; i++) {
            text.add((int) ((bytes >>> (8 * i)) & 255));
        }
        return text.length;
    }

    public int pass() {
        if (made.length > text.room()) {
            return NONE;
        }
        for (int i = 0; i < made.length; i++) {
            text.add(made.at(i));
        }
        return text.length;
    }

    public int clear() {
        int had = text.length;
        text.length = 0;
        return had;
    }

    public int read(int format, int way) throws IllegalArgumentException {
        Format shape = shapeOf(format);
        needWay(way);
        int fault = scan.faultOf(text);
        if (fault != NONE) {
            return -1 - fault;
        }
        roundScanned(shape, way);
        keepResult();
        return 0;
    }

    public long result() {
        return resultPattern;
    }

    public int flags() {
        return resultFlags;
    }

    // ---- texts out

    public int shortest(int format, long bits, int form) throws IllegalArgumentException {
        Format shape = shapeOwning(format, bits);
        needForm(form);
        if (!shape.isFinite(bits)) {
            return tellName(shape, bits);
        }
        int count = 1;
        candidate.empty();
        if (!shape.isZero(bits)) {
            count = findShortest(shape, bits);
        }
        return tellRow(candidate, shape.isMinus(bits), count, form);
    }

    public int exact(int format, long bits, int form) throws IllegalArgumentException {
        Format shape = shapeOwning(format, bits);
        needForm(form);
        if (!shape.isFinite(bits)) {
            return tellName(shape, bits);
        }
        setSize(number, shape, bits);
        return tellRow(number, shape.isMinus(bits), number.significant(), form);
    }

    public int middle(int format, long bits, int form) throws IllegalArgumentException {
        Format shape = shapeOwning(format, bits);
        needForm(form);
        needFinite(shape, bits);
        setMiddle(number, shape, bits);
        return tellRow(number, shape.isMinus(bits), number.significant(), form);
    }

    public int digits(int format, long bits, int n, int way, int form) throws IllegalArgumentException {
        Format shape = shapeOwning(format, bits);
        needWay(way);
        needForm(form);
        if (n < 1 || n > MOST_DIGITS) {
            throw new IllegalArgumentException("n is not 1 .. 800");
        }
        if (!shape.isFinite(bits)) {
            return tellName(shape, bits);
        }
        setSize(number, shape, bits);
        roundAt(number.point() - n, shape.isMinus(bits), way);
        return tellRow(candidate, shape.isMinus(bits), n, form);
    }

    public int fixed(int format, long bits, int n, int way) throws IllegalArgumentException {
        Format shape = shapeOwning(format, bits);
        needWay(way);
        if (n < 0 || n > MOST_DECIMALS) {
            throw new IllegalArgumentException("n is not 0 .. 1100");
        }
        if (!shape.isFinite(bits)) {
            return tellName(shape, bits);
        }
        setSize(number, shape, bits);
        roundAt(-n, shape.isMinus(bits), way);
        return tellRow(candidate, shape.isMinus(bits), candidate.point() + n, PLAIN);
    }

    public int hex(int format, long bits) throws IllegalArgumentException {
        Format shape = shapeOwning(format, bits);
        if (!shape.isFinite(bits)) {
            return tellName(shape, bits);
        }
        told.takeNone(shape.isMinus(bits));
        made.startWith(shape.isMinus(bits));
        made.addHexadecimal(shape.wholeOf(bits), shape.unitOf(bits));
        return made.length;
    }

    public int out(int i) throws IndexOutOfBoundsException {
        if (i < 0 || i >= made.length) {
            throw new IndexOutOfBoundsException("no such byte");
        }
        return made.at(i);
    }

    public int decimal(int what) throws IllegalArgumentException {
        switch (what) {
            case 0:
                return told.count;
            case 1:
                return told.point;
            case 2:
                return told.minus ? 1 : 0;
            default:
                throw new IllegalArgumentException("what is not 0 .. 2");
        }
    }

    public int digit(int i) throws IndexOutOfBoundsException {
        if (i < 0 || i >= told.count) {
            throw new IndexOutOfBoundsException("no such digit");
        }
        return told.digitAt(i);
    }

    // ---- numbers

    public long nearest(int format, long m, int e, int way) throws IllegalArgumentException {
        Format shape = shapeOf(format);
        needWay(way);
        needTens(e);
        roundTens(shape, m, e, way);
        return keepResult();
    }

    public long power(int format, long m, int e, int way) throws IllegalArgumentException {
        Format shape = shapeOf(format);
        needWay(way);
        if (m == 0) {
            rounding.become(0);
        } else {
            rounding.round(shape, m < 0, m < 0 ? -m : m, e, false, way);
        }
        return keepResult();
    }

    public long convert(int format, long bits, int to, int way) throws IllegalArgumentException {
        Format shape = shapeOwning(format, bits);
        Format target = shapeOf(to);
        needWay(way);
        boolean minus = shape.isMinus(bits);
        if (shape.isNan(bits)) {
            rounding.become(target.signed(minus, target.nanWith(shape.payloadOf(bits))));
        } else if (!shape.isFinite(bits)) {
            rounding.become(target.signed(minus, target.infinite()));
        } else if (shape.isZero(bits)) {
            rounding.become(target.signed(minus, 0));
        } else {
            rounding.round(target, minus, shape.wholeOf(bits), shape.unitOf(bits), false, way);
        }
        return keepResult();
    }

    public long next(int format, long bits, boolean up) throws IllegalArgumentException {
        Format shape = shapeOwning(format, bits);
        if (shape.isNan(bits)) {
            return bits;
        }
        long size = shape.sizeOf(bits);
        if (size == 0) {
            return shape.signed(!up, 1);
        }
        boolean minus = shape.isMinus(bits);
        if (up == minus) {
            return shape.signed(minus, size - 1);
        }
        return shape.signed(minus, Math.min(size + 1, shape.infinite()));
    }

    public long steps(int format, long a, long b) throws IllegalArgumentException {
        Format shape = shapeOwning(format, a);
        needPattern(shape, b);
        if (shape.isNan(a) || shape.isNan(b)) {
            throw new IllegalArgumentException("a nan has no steps");
        }
        long from = shape.placeOf(a);
        long to = shape.placeOf(b);
        long way = to - from;
        if (from < 0 && to > 0 && way < 0) {
            return Long.MAX_VALUE;
        }
        if (from > 0 && to < 0 && way >= 0) {
            return Long.MIN_VALUE;
        }
        return way;
    }

    public int compare(int format, long a, long b) throws IllegalArgumentException {
        Format shape = shapeOwning(format, a);
        needPattern(shape, b);
        if (shape.isNan(a) || shape.isNan(b)) {
            return 2;
        }
        return signOf(shape.placeOf(a), shape.placeOf(b));
    }

    public int order(int format, long a, long b) throws IllegalArgumentException {
        Format shape = shapeOwning(format, a);
        needPattern(shape, b);
        if (shape.isMinus(a) != shape.isMinus(b)) {
            return shape.isMinus(a) ? -1 : 1;
        }
        int bySize = signOf(shape.sizeOf(a), shape.sizeOf(b));
        return shape.isMinus(a) ? -bySize : bySize;
    }

    public int kind(int format, long bits) throws IllegalArgumentException {
        Format shape = shapeOwning(format, bits);
        if (shape.isZero(bits)) {
            return 0;
        }
        if (shape.isFinite(bits)) {
            return shape.exponentOf(bits) == 0 ? 1 : 2;
        }
        return shape.isNan(bits) ? 4 : 3;
    }

    public boolean reads(int format, long bits, long m, int e) throws IllegalArgumentException {
        Format shape = shapeOwning(format, bits);
        needTens(e);
        roundTens(shape, m, e, NEAREST_EVEN);
        return rounding.pattern == bits;
    }

    public boolean holds(int format, long bits) throws IllegalArgumentException {
        Format shape = shapeOwning(format, bits);
        needFinite(shape, bits);
        if (shape.isZero(bits)) {
            throw new IllegalArgumentException("a zero has no such decimals");
        }
        int count = findShortest(shape, bits);
        if (!candidateReads(shape, bits)) {
            return false;
        }
        if (count == 1) {
            return true;
        }
        int position = number.point() - count + 1;
        candidate.takeDownTo(number, position);
        if (candidateReads(shape, bits)) {
            return false;
        }
        candidate.takeDownTo(number, position);
        candidate.addUnit(position);
        return !candidateReads(shape, bits);
    }

    // ---- what the calls have in common

    private static Format shapeOf(int format) {
        if (format < 0 || format >= FORMATS.length) {
            throw new IllegalArgumentException("format is not 0 .. 3");
        }
        return FORMATS[format];
    }

    private static Format shapeOwning(int format, long bits) {
        Format shape = shapeOf(format);
        needPattern(shape, bits);
        return shape;
    }

    private static void needPattern(Format shape, long bits) {
        if (!shape.owns(bits)) {
            throw new IllegalArgumentException("the pattern has other bits");
        }
    }

    private static void needFinite(Format shape, long bits) {
        if (!shape.isFinite(bits)) {
            throw new IllegalArgumentException("neither inf nor nan may be here");
        }
    }

    private static void needWay(int way) {
        if (way < 0 || way > MOST_WAY) {
            throw new IllegalArgumentException("way is not 0 .. 4");
        }
    }

    private static void needForm(int form) {
        if (form < 0 || form > PLAIN_OR_NOT) {
            throw new IllegalArgumentException("form is not 0 .. 2");
        }
    }

    private static void needTens(int e) {
        if (e < -MOST_TENS || e > MOST_TENS) {
            throw new IllegalArgumentException("e is not -5000 .. 5000");
        }
    }

    private static int signOf(long a, long b) {
        if (a == b) {
            return 0;
        }
        return a < b ? -1 : 1;
    }

    /** Whether, of the two next to a size, a way takes the greater one; odd tells of the lesser. */
    private static boolean goesUp(int way, boolean minus, boolean odd, int rest) {
        switch (way) {
            case NEAREST_EVEN:
                return rest == REST_ABOVE_HALF || rest == REST_HALF && odd;
            case NEAREST_AWAY:
                return rest >= REST_HALF;
            case TO_GREATER:
                return rest != REST_NONE && !minus;
            case TO_LESSER:
                return rest != REST_NONE && minus;
            default:
                return false;
        }
    }

    private long keepResult() {
        resultPattern = rounding.pattern;
        resultFlags = rounding.flags;
        return resultPattern;
    }

    // ---- rounding to a format

    private void roundScanned(Format shape, int way) {
        if (scan.what == Scan.INF) {
            rounding.become(shape.signed(scan.minus, shape.infinite()));
        } else if (scan.what == Scan.NAN) {
            rounding.become(shape.signed(scan.minus, shape.nanWith(0)));
        } else if (scan.isZero()) {
            rounding.become(shape.signed(scan.minus, 0));
        } else if (scan.what == Scan.HEXADECIMAL) {
            roundHexadecimal(shape, way);
        } else {
            roundDecimal(shape, way);
        }
    }

    private void roundHexadecimal(Format shape, int way) {
        long whole = 0;
        boolean more = false;
        int unit = scan.exponent + 4 * scan.wholeDigits;
        for (int place = scan.start; place < scan.end; place++) {
            int value = Scan.valueOf(text.at(place));
            if (value < 0) {
                continue;
            }
            // 57 bits and a mark for those behind them tell all roundings apart
            if ((whole >>> 56) == 0) {
                whole = whole * 16 + value;
                unit -= 4;
            } else if (value != 0) {
                more = true;
            }
        }
        rounding.round(shape, scan.minus, whole, unit, more, way);
    }

    private void roundDecimal(Format shape, int way) {
        int point = scan.wholeDigits + scan.exponent;
        if (roundedFar(shape, scan.minus, point - scan.leading, way)) {
            return;
        }
        number.setDigits(text, scan.start, scan.end, point - 1);
        roundRow(number, shape, scan.minus, way);
    }

    private void roundTens(Format shape, long m, int e, int way) {
        if (m == 0) {
            rounding.become(0);
            return;
        }
        // below 0 there is room for the size of every long
        long size = m < 0 ? m : -m;
        int count = digitsOf(size);
        if (roundedFar(shape, m < 0, count + e, way)) {
            return;
        }
        number.empty();
        for (int i = 0; i < count; i++) {
            number.addDigit((int) -(size % 10), e + i);
            size /= 10;
        }
        roundRow(number, shape, m < 0, way);
    }

    private static int digitsOf(long size) {
        int count = 0;
        for (long left = size; left != 0 && count < LONG_DIGITS; left /= 10) {
            count++;
        }
        return count;
    }

    /** Every decimal that is so far off is rounded as every other: no row need hold it. */
    private boolean roundedFar(Format shape, boolean minus, int point, int way) {
        if (point > HIGHEST_POINT) {
            rounding.round(shape, minus, 1, FAR_POWER, true, way);
            return true;
        }
        if (point < LOWEST_POINT) {
            rounding.round(shape, minus, 1, -FAR_POWER, true, way);
            return true;
        }
        return false;
    }

    /** The row is used up. */
    private void roundRow(Row row, Format shape, boolean minus, int way) {
        int power = Row.KEPT_BITS - Row.bitsOfTens(row.point());
        row.scale(power);
        rounding.round(shape, minus, row.whole(), -power, row.hasMore(), way);
    }

    private boolean candidateReads(Format shape, long bits) {
        roundRow(candidate, shape, shape.isMinus(bits), NEAREST_EVEN);
        return rounding.pattern == bits;
    }

    // ---- decimals of numbers

    private static void setSize(Row row, Format shape, long bits) {
        row.setWhole(shape.wholeOf(bits));
        row.scale(shape.unitOf(bits));
    }

    private static void setMiddle(Row row, Format shape, long bits) {
        row.setWhole(2 * shape.wholeOf(bits) + 1);
        row.scale(shape.unitOf(bits) - 1);
    }

    /** The middle between a number other than 0 and the next lesser size. */
    private static void setLowerMiddle(Row row, Format shape, long bits) {
        if (shape.isNearBelow(bits)) {
            row.setWhole(4 * shape.wholeOf(bits) - 1);
            row.scale(shape.unitOf(bits) - 2);
        } else {
            row.setWhole(2 * shape.wholeOf(bits) - 1);
            row.scale(shape.unitOf(bits) - 1);
        }
    }

    /** The candidate becomes the shortest decimal: how many digits it has. */
    private int findShortest(Format shape, long bits) {
        setSize(number, shape, bits);
        setMiddle(high, shape, bits);
        setLowerMiddle(low, shape, bits);
        boolean even = (bits & 1) == 0;
        int point = number.point();
        for (int count = 1; count < MOST_SHORTEST; count++) {
            if (foundDownTo(point - count, even)) {
                return count;
            }
        }
        return MOST_SHORTEST;
    }

    /** The middles themselves are read back to a number whose fraction is even. */
    private boolean foundDownTo(int position, boolean even) {
        candidate.takeDownTo(number, position);
        int aboveLow = candidate.against(low);
        boolean lesserReads = aboveLow > 0 || aboveLow == 0 && even;
        candidate.addUnit(position);
        int aboveHigh = candidate.against(high);
        boolean greaterReads = aboveHigh < 0 || aboveHigh == 0 && even;
        if (lesserReads && greaterReads) {
            roundAt(position, false, NEAREST_EVEN);
        } else if (lesserReads) {
            candidate.takeDownTo(number, position);
        }
        return lesserReads || greaterReads;
    }

    /** The candidate becomes the number, rounded to whole 10^position. */
    private void roundAt(int position, boolean minus, int way) {
        candidate.takeDownTo(number, position);
        boolean odd = number.digitAt(position) % 2 != 0;
        if (goesUp(way, minus, odd, number.restBelow(position))) {
            candidate.addUnit(position);
        }
    }

    private int tellRow(Row row, boolean minus, int count, int form) {
        told.take(row, minus, count);
        made.startWith(minus);
        int exponent = told.point - 1;
        if (form == PLAIN || form == PLAIN_OR_NOT && exponent >= LEAST_PLAIN && exponent <= MOST_PLAIN) {
            made.addPlain(told);
        } else {
            made.addScientific(told);
        }
        return made.length;
    }

    private int tellName(Format shape, long bits) {
        told.takeNone(shape.isMinus(bits));
        made.startWith(shape.isMinus(bits));
        made.addWord(shape.isNan(bits) ? "nan" : "inf");
        return made.length;
    }

    /** The formats, and what a pattern of them tells. */
    private enum Format {
        BINARY64(64, 53, 1023),
        BINARY32(32, 24, 127),
        BINARY16(16, 11, 15),
        BRAIN16(16, 8, 127);

        final int width;
        final int precision;
        final int greatest;

        Format(int width, int precision, int greatest) {
            this.width = width;
            this.precision = precision;
            this.greatest = greatest;
        }

        boolean owns(long bits) {
            // a shift by 64 would be none
            return width == 64 || (bits >>> width) == 0;
        }

        long signBit() {
            return 1L << (width - 1);
        }

        /** The bit that a normal number has above its fraction. */
        long hiddenBit() {
            return 1L << (precision - 1);
        }

        /** The bits of an infinite one without its sign. */
        long infinite() {
            return signBit() - hiddenBit();
        }

        boolean isMinus(long bits) {
            return (bits & signBit()) != 0;
        }

        long sizeOf(long bits) {
            return bits & (signBit() - 1);
        }

        long signed(boolean minus, long size) {
            return minus ? size | signBit() : size;
        }

        boolean isZero(long bits) {
            return sizeOf(bits) == 0;
        }

        boolean isFinite(long bits) {
            return sizeOf(bits) < infinite();
        }

        boolean isNan(long bits) {
            return sizeOf(bits) > infinite();
        }

        int exponentOf(long bits) {
            return (int) (sizeOf(bits) >>> (precision - 1));
        }

        long fractionOf(long bits) {
            return bits & (hiddenBit() - 1);
        }

        /** A finite size is wholeOf * 2^unitOf. */
        long wholeOf(long bits) {
            return exponentOf(bits) == 0 ? fractionOf(bits) : hiddenBit() + fractionOf(bits);
        }

        int unitOf(long bits) {
            return leastUnit() + Math.max(exponentOf(bits) - 1, 0);
        }

        int leastUnit() {
            return 2 - greatest - precision;
        }

        /** Whether the next lesser size is half as far as the next greater one. */
        boolean isNearBelow(long bits) {
            return fractionOf(bits) == 0 && exponentOf(bits) > 1;
        }

        /** The place among all numbers by their order, both zeros at 0. */
        long placeOf(long bits) {
            return isMinus(bits) ? -sizeOf(bits) : sizeOf(bits);
        }

        /** The bits behind the highest one of a fraction, at the left end of a long. */
        long payloadOf(long bits) {
            return fractionOf(bits) << (66 - precision);
        }

        long nanWith(long payload) {
            return infinite() + hiddenBit() / 2 + (payload >>> (66 - precision));
        }
    }

    /** Rounds a binary number to a format and keeps what became of it. */
    private static final class Rounding {
        private static final int INEXACT = 1;
        private static final int OVERFLOW = 2;
        private static final int TINY = 4;

        long pattern;
        int flags;

        Rounding() {
            pattern = 0;
            flags = 0;
        }

        void become(long exactly) {
            pattern = exactly;
            flags = 0;
        }

        /**
         * Rounds whole * 2^unit, and with more a little more than that (less than the next whole
         * one). The whole is not 0, its highest bit counts as any other.
         */
        void round(Format shape, boolean minus, long whole, long unit, boolean more, int way) {
            long top = unit + bitsOf(whole);
            long step = Math.max(top - shape.precision, shape.leastUnit());
            long drop = step - unit;
            long kept = keptOf(whole, drop);
            int rest = restOf(whole, drop, more);
            if (goesUp(way, minus, (kept & 1) != 0, rest)) {
                kept++;
            }
            if (kept == 2 * shape.hiddenBit()) {
                kept = shape.hiddenBit();
                step++;
            }
            settle(shape, minus, kept, step, way);
            if (rest != REST_NONE) {
                flags |= shape.exponentOf(pattern) == 0 ? INEXACT | TINY : INEXACT;
            }
        }

        private void settle(Format shape, boolean minus, long kept, long step, int way) {
            long exponent = kept < shape.hiddenBit() ? 0 : step - shape.leastUnit() + 1;
            if (exponent > 2L * shape.greatest) {
                boolean toInfinite = goesUp(way, minus, true, REST_ABOVE_HALF);
                pattern = shape.signed(minus, toInfinite ? shape.infinite() : shape.infinite() - 1);
                flags = INEXACT | OVERFLOW;
            } else {
                long fraction = kept & (shape.hiddenBit() - 1);
                pattern = shape.signed(minus, exponent * shape.hiddenBit() + fraction);
                flags = 0;
            }
        }

        private static int bitsOf(long whole) {
            int count = 0;
            long left = whole;
            for (int half = 32; half > 0; half /= 2) {
                if ((left >>> half) != 0) {
                    left = left >>> half;
                    count += half;
                }
            }
            return left == 0 ? count : count + 1;
        }

        /** Shifts beyond 63 would go round. */
        private static long keptOf(long whole, long drop) {
            if (drop > 63) {
                return 0;
            }
            return drop > 0 ? whole >>> drop : whole << -drop;
        }

        private static int restOf(long whole, long drop, boolean more) {
            if (drop > 64) {
                return REST_BELOW_HALF;
            }
            if (drop < 1) {
                return more ? REST_BELOW_HALF : REST_NONE;
            }
            long half = 1L << (drop - 1);
            boolean below = more || (whole & (half - 1)) != 0;
            if ((whole & half) != 0) {
                return below ? REST_ABOVE_HALF : REST_HALF;
            }
            return below ? REST_BELOW_HALF : REST_NONE;
        }
    }

    /**
     * A decimal size with a fixed point, nine digits to a limb, the highest first. All middles and
     * numbers of all formats are exact in it.
     */
    private static final class Row {
        /** A row scaled to these has at least 57 bits before the point, and few enough for a long. */
        static final int KEPT_BITS = 61;

        private static final int LIMB_DIGITS = 9;
        private static final int BASE = 1000000000;
        private static final int HIGHEST_TEN = 100000000;
        private static final int[] TENS = {
            1, 10, 100, 1000, 10000, 100000, 1000000, 10000000, 100000000
        };
        /** 324 digits before the point hold the greatest numbers. */
        private static final int WHOLE_LIMBS = 36;
        /** 1080 digits behind it hold the least middle, 2^-1075. */
        private static final int LIMBS = WHOLE_LIMBS + 120;
        /** The greatest power of 2 below BASE: a carry fits in one limb. */
        private static final int STEP_BITS = 29;

        private final int[] limbs;
        /** All limbs that are not 0 are first .. last, and these two are not 0; or all are 0. */
        private int first;
        private int last;
        /** Whether digits that are not 0 came below the last limb. */
        private boolean lost;

        Row() {
            limbs = new int[LIMBS];
            first = LIMBS;
            last = -1;
            lost = false;
        }

        /** How many bits a number below 10^point has at most, a hair less at times. */
        static int bitsOfTens(int point) {
            return Math.floorDiv(point * 217706, 65536) + 1;
        }

        void empty() {
            int end = Math.min(last, LIMBS - 1);
            for (int i = Math.max(first, 0); i <= end; i++) {
                limbs[i] = 0;
            }
            first = LIMBS;
            last = -1;
            lost = false;
        }

        boolean isEmpty() {
            return first > last;
        }

        void setWhole(long whole) {
            empty();
            long left = whole;
            for (int i = WHOLE_LIMBS - 1; i >= 0 && left > 0; i--) {
                setLimb(i, (int) (left % BASE));
                left /= BASE;
            }
        }

        /** Puts a digit at 10^position, where there was none. */
        void addDigit(int digit, int position) {
            int i = limbOf(position);
            placeLimb(i, limbAt(i) + digit * tenOf(position));
        }

        /** Becomes the digits that a text has from start to end - 1, the first of them at 10^position. */
        void setDigits(ByteRow text, int start, int end, int position) {
            empty();
            int i = limbOf(position);
            int ten = tenOf(position);
            int sum = 0;
            for (int place = start; place < end; place++) {
                int c = text.at(place);
                if (c == '.') {
                    continue;
                }
                sum += (c - '0') * ten;
                ten /= 10;
                if (ten == 0) {
                    placeLimb(i, sum);
                    i++;
                    sum = 0;
                    ten = HIGHEST_TEN;
                }
            }
            placeLimb(i, sum);
        }

        private void placeLimb(int i, int value) {
            if (i >= LIMBS && value != 0) {
                lost = true;
            }
            setLimb(i, value);
        }

        private static int limbOf(int position) {
            return WHOLE_LIMBS - 1 - Math.floorDiv(position, LIMB_DIGITS);
        }

        /** The power of 10 that a position has within its limb. */
        private static int tenOf(int position) {
            int place = Math.floorMod(position, LIMB_DIGITS);
            return place < 0 || place >= TENS.length ? 1 : TENS[place];
        }

        private int limbAt(int i) {
            return i < 0 || i >= LIMBS ? 0 : limbs[i];
        }

        private void setLimb(int i, int value) {
            if (i < 0 || i >= LIMBS) {
                return;
            }
            limbs[i] = value;
            if (value != 0) {
                first = Math.min(first, i);
                last = Math.max(last, i);
            }
        }

        /** Times 2^power, or over 2^-power. */
        void scale(int power) {
            for (int left = power; left > 0; left -= STEP_BITS) {
                multiply(Math.min(left, STEP_BITS));
            }
            for (int left = -power; left > 0; left -= STEP_BITS) {
                divide(Math.min(left, STEP_BITS));
            }
        }

        private void multiply(int bits) {
            long carry = 0;
            int end = Math.max(first, 0);
            for (int i = Math.min(last, LIMBS - 1); i >= end; i--) {
                long sum = ((long) limbs[i] << bits) + carry;
                carry = sum / BASE;
                limbs[i] = (int) (sum - carry * BASE);
            }
            setLimb(first - 1, (int) carry);
            trim();
        }

        private void divide(int bits) {
            long mask = (1L << bits) - 1;
            long rest = 0;
            int end = Math.min(last, LIMBS - 1);
            for (int i = Math.max(first, 0); i <= end; i++) {
                long sum = rest * BASE + limbs[i];
                limbs[i] = (int) (sum >>> bits);
                rest = sum & mask;
            }
            for (int i = end + 1; i < LIMBS && rest != 0; i++) {
                long sum = rest * BASE;
                setLimb(i, (int) (sum >>> bits));
                rest = sum & mask;
            }
            if (rest != 0) {
                lost = true;
            }
            trim();
        }

        private void trim() {
            while (first <= last && limbAt(last) == 0) {
                last--;
            }
            while (first <= last && limbAt(first) == 0) {
                first++;
            }
            if (isEmpty()) {
                first = LIMBS;
                last = -1;
            }
        }

        /** The point of the decimal that the row is; 1 of 0. */
        int point() {
            if (isEmpty()) {
                return 1;
            }
            int limb = limbAt(first);
            int count = 1;
            while (count < LIMB_DIGITS && limb >= tenOf(count)) {
                count++;
            }
            return (WHOLE_LIMBS - 1 - first) * LIMB_DIGITS + count;
        }

        /** How many digits there are up to the last that is not 0; 1 of 0. */
        int significant() {
            return isEmpty() ? 1 : point() - lowest();
        }

        /** The position of the last digit that is not 0, in a row that is not 0. */
        private int lowest() {
            int position = (WHOLE_LIMBS - 1 - last) * LIMB_DIGITS;
            int left = limbAt(last);
            for (int i = 1; i < LIMB_DIGITS && left % 10 == 0; i++) {
                left /= 10;
                position++;
            }
            return position;
        }

        /** Gives digits from the first that is not 0 on. */
        void giveDigits(byte[] to, int count) {
            int i = first;
            int limb = limbAt(i);
            int ten = tenOf(point() - 1);
            for (int at = 0; at < count && at < to.length && ten > 0; at++) {
                to[at] = (byte) (limb / ten % 10);
                ten /= 10;
                if (ten == 0) {
                    i++;
                    limb = limbAt(i);
                    ten = HIGHEST_TEN;
                }
            }
        }

        int digitAt(int position) {
            int ten = tenOf(position);
            return ten > 0 ? limbAt(limbOf(position)) / ten % 10 : 0;
        }

        /** What the digits below 10^position are, as part of 10^position. */
        int restBelow(int position) {
            int digit = digitAt(position - 1);
            boolean more = !isEmpty() && lowest() < position - 1;
            if (digit > 5 || digit == 5 && more) {
                return REST_ABOVE_HALF;
            }
            if (digit == 5) {
                return REST_HALF;
            }
            return digit > 0 || more ? REST_BELOW_HALF : REST_NONE;
        }

        /** Becomes another row without its digits below 10^position. */
        void takeDownTo(Row other, int position) {
            empty();
            int end = limbOf(position);
            for (int i = other.first; i <= other.last && i < end; i++) {
                setLimb(i, other.limbAt(i));
            }
            int limb = other.limbAt(end);
            int ten = tenOf(position);
            setLimb(end, ten > 0 ? limb - limb % ten : limb);
        }

        /** Adds 10^position. */
        void addUnit(int position) {
            int add = tenOf(position);
            for (int i = Math.min(limbOf(position), LIMBS - 1); i >= 0 && add > 0; i--) {
                int sum = limbAt(i) + add;
                add = sum >= BASE ? 1 : 0;
                setLimb(i, sum >= BASE ? sum - BASE : sum);
            }
            trim();
        }

        /** Below 0, 0 or above 0 as the row is less than another, the same or greater. */
        int against(Row other) {
            int end = Math.max(last, other.last);
            for (int i = Math.min(first, other.first); i <= end; i++) {
                int difference = limbAt(i) - other.limbAt(i);
                if (difference != 0) {
                    return difference;
                }
            }
            return 0;
        }

        /** What is before the point, where a long has room for it. */
        long whole() {
            long sum = limbAt(WHOLE_LIMBS - 3);
            sum = sum * BASE + limbAt(WHOLE_LIMBS - 2);
            return sum * BASE + limbAt(WHOLE_LIMBS - 1);
        }

        boolean hasMore() {
            return lost || last >= WHOLE_LIMBS;
        }
    }

    /** The decimal that was told last. */
    private static final class Decimal {
        /** 309 digits before the point and 1100 behind it are the most. */
        private static final int ROOM = 1420;

        private final byte[] digits;
        boolean minus;
        int count;
        int point;

        Decimal() {
            digits = new byte[ROOM];
            minus = false;
            count = 0;
            point = 0;
        }

        void takeNone(boolean withMinus) {
            minus = withMinus;
            count = 0;
            point = 0;
        }

        void take(Row row, boolean withMinus, int upTo) {
            minus = withMinus;
            count = Math.min(upTo, ROOM);
            point = row.point();
            row.giveDigits(digits, count);
        }

        /** Behind the last digit all are 0. */
        int digitAt(int i) {
            return i < 0 || i >= count || i >= ROOM ? 0 : digits[i];
        }
    }

    /** Bytes of a text in a room of their own. */
    private static final class ByteRow {
        private final byte[] bytes;
        int length;

        ByteRow(int room) {
            bytes = new byte[Math.max(room, 0)];
            length = 0;
        }

        int room() {
            return bytes.length - length;
        }

        /** The byte, or NONE where there is none. */
        int at(int i) {
            return i < 0 || i >= length || i >= bytes.length ? NONE : bytes[i] & 255;
        }

        void add(int value) {
            if (length >= 0 && length < bytes.length) {
                bytes[length] = (byte) value;
                length++;
            }
        }

        void addWord(String word) {
            for (int i = 0; i < word.length(); i++) {
                add(word.charAt(i));
            }
        }

        void startWith(boolean minus) {
            length = 0;
            if (minus) {
                add('-');
            }
        }

        void addScientific(Decimal decimal) {
            add('0' + decimal.digitAt(0));
            if (decimal.count > 1) {
                add('.');
            }
            addDigits(decimal, 1);
            add('e');
            addNumber(decimal.point - 1);
        }

        void addPlain(Decimal decimal) {
            if (decimal.point < 1) {
                addWord("0.");
                for (int i = decimal.point; i < 0; i++) {
                    add('0');
                }
                addDigits(decimal, 0);
                return;
            }
            for (int i = 0; i < decimal.point; i++) {
                add('0' + decimal.digitAt(i));
            }
            if (decimal.count > decimal.point) {
                add('.');
            }
            addDigits(decimal, decimal.point);
        }

        private void addDigits(Decimal decimal, int from) {
            for (int i = from; i < decimal.count; i++) {
                add('0' + decimal.digitAt(i));
            }
        }

        /** Adds a number of at most four digits. */
        private void addNumber(int value) {
            int size = value;
            if (value < 0) {
                add('-');
                size = -value;
            }
            for (int ten = 1000; ten > 0; ten /= 10) {
                if (size >= ten || ten == 1) {
                    add('0' + size / ten % 10);
                }
            }
        }

        void addHexadecimal(long whole, int unit) {
            if (whole == 0) {
                addWord("0x0p0");
                return;
            }
            int bits = Rounding.bitsOf(whole);
            addWord("0x1");
            // by two steps, as a shift by 64 would be none
            long fraction = (whole << (64 - bits)) << 1;
            if (fraction != 0) {
                add('.');
            }
            for (int i = 0; i < 16 && fraction != 0; i++) {
                int value = (int) (fraction >>> 60);
                add(value < 10 ? '0' + value : 'a' + value - 10);
                fraction = fraction << 4;
            }
            add('p');
            addNumber(unit + bits - 1);
        }
    }

    /** Finds the parts of a text that is read, or its fault. */
    private static final class Scan {
        static final int DECIMAL = 0;
        static final int HEXADECIMAL = 1;
        static final int INF = 2;
        static final int NAN = 3;

        /** So far off that no digits of a text bring it back, and far from where an int ends. */
        private static final int MOST_EXPONENT = 1000000;
        /** The first letters of infinity are a word of their own. */
        private static final int SHORT_INF = 3;

        int what;
        boolean minus;
        /** The digits, with the point among them, are at start .. end - 1. */
        int start;
        int end;
        int wholeDigits;
        /** How many digits 0 come before the first other one. */
        int leading;
        int exponent;
        private int allDigits;

        Scan() {
            what = DECIMAL;
            minus = false;
            start = 0;
            end = 0;
            wholeDigits = 0;
            leading = 0;
            exponent = 0;
            allDigits = 0;
        }

        /** The value of a digit, of a letter a .. f too; below 0 of all else. */
        static int valueOf(int c) {
            if (c >= '0' && c <= '9') {
                return c - '0';
            }
            int small = smallOf(c);
            return small >= 'a' && small <= 'f' ? small - 'a' + 10 : -1;
        }

        private static int smallOf(int c) {
            return c >= 'A' && c <= 'Z' ? c - 'A' + 'a' : c;
        }

        boolean isZero() {
            return leading == allDigits;
        }

        /** The place of the fault; NONE if there is none. */
        int faultOf(ByteRow text) {
            int place = behindSign(text, 0);
            minus = text.at(0) == '-';
            int c = smallOf(text.at(place));
            if (c == 'n') {
                what = NAN;
                return faultOfWord(text, place, "nan");
            }
            if (c == 'i') {
                what = INF;
                return faultOfWord(text, place, "infinity");
            }
            if (c == '0' && smallOf(text.at(place + 1)) == 'x') {
                what = HEXADECIMAL;
                return faultOfNumber(text, place + 2, 16, 'p');
            }
            what = DECIMAL;
            return faultOfNumber(text, place, 10, 'e');
        }

        private static int behindSign(ByteRow text, int place) {
            int c = text.at(place);
            return c == '+' || c == '-' ? place + 1 : place;
        }

        private int faultOfWord(ByteRow text, int place, String word) {
            int count = 0;
            while (count < word.length() && smallOf(text.at(place + count)) == word.charAt(count)) {
                count++;
            }
            boolean complete = count == word.length() || what == INF && count == SHORT_INF;
            return complete && place + count == text.length ? NONE : place + count;
        }

        private int faultOfNumber(ByteRow text, int place, int radix, char mark) {
            takeDigits(text, place, radix);
            exponent = 0;
            if (allDigits == 0) {
                return end;
            }
            if (end == text.length) {
                return NONE;
            }
            if (smallOf(text.at(end)) != mark) {
                return end;
            }
            return faultOfExponent(text, end + 1);
        }

        private void takeDigits(ByteRow text, int place, int radix) {
            boolean pointed = false;
            start = place;
            allDigits = 0;
            wholeDigits = 0;
            leading = 0;
            for (end = place; end < text.length; end++) {
                int c = text.at(end);
                int value = valueOf(c);
                if (c == '.' && !pointed) {
                    pointed = true;
                } else if (value >= 0 && value < radix) {
                    leading += value == 0 && leading == allDigits ? 1 : 0;
                    allDigits++;
                    wholeDigits += pointed ? 0 : 1;
                } else {
                    break;
                }
            }
        }

        private int faultOfExponent(ByteRow text, int place) {
            int from = behindSign(text, place);
            int size = 0;
            int to = from;
            for (; to < text.length; to++) {
                int value = valueOf(text.at(to));
                if (value < 0 || value > 9) {
                    break;
                }
                size = Math.min(size * 10 + value, MOST_EXPONENT);
            }
            exponent = text.at(place) == '-' ? -size : size;
            return to > from && to == text.length ? NONE : to;
        }
    }
}
