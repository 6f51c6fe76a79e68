/** Terms: what a DECIMAL is, SHORTEST, EXACT, SO MANY, the FORMS of a text, HEXADECIMAL. */
final class WritingSentences extends Sentences {
    private WritingSentences() {
    }

    private static String shortest(int format, long pattern) {
        return out(x -> x.shortest(format, pattern, 0));
    }

    private static String exact(double number, int form) {
        return out(x -> x.exact(0, bits(number), form));
    }

    private static String digits(double number, int n, int way) {
        return out(x -> x.digits(0, bits(number), n, way, 0));
    }

    private static String fixed(double number, int n, int way) {
        return out(x -> x.fixed(0, bits(number), n, way));
    }

    @Says(at = "Terms", words = "A DECIMAL is told by a sign, DIGITS d1 d2 .. and a POINT p: 0.d1 d2 .. * 10^p")
    static void signDigitsAndPoint() {
        same("12.5", told(x -> x.exact(0, bits(12.5), 1)), "+@2:125");
        same("-12.5", told(x -> x.exact(0, bits(-12.5), 1)), "-@2:125");
        same("1", told(x -> x.exact(0, bits(1.0), 1)), "+@1:1");
        same("0.5", told(x -> x.exact(0, bits(0.5), 1)), "+@0:5");
        same("0.0625", told(x -> x.exact(0, bits(0.0625), 1)), "+@-1:625");
        same("1000", told(x -> x.exact(0, bits(1000.0), 1)), "+@4:1");
    }

    @Says(at = "Terms", words = "d1 is not 0, but for 0, all digits of which are 0, and its point 1.")
    static void theDigitsOfZero() {
        for (int f = 0; f < 4; f++) {
            int format = f;
            same("0, shortest", told(x -> x.shortest(format, 0, 0)), "+@1:0");
            same("-0, shortest", told(x -> x.shortest(format, SIGN[format], 1)), "-@1:0");
            same("0, exact", told(x -> x.exact(format, 0, 2)), "+@1:0");
            same("0 in three digits", told(x -> x.digits(format, 0, 3, 0, 0)), "+@1:000");
            same("0 in two decimals", told(x -> x.fixed(format, 0, 2, 0)), "+@1:000");
        }
        same("0.0625 in two decimals", told(x -> x.fixed(0, bits(0.0625), 2, 0)), "+@-1:6");
        same("0.0625 in three digits", told(x -> x.digits(0, bits(0.0625), 3, 0, 1)), "+@-1:625");
    }

    @Says(at = "Terms", words = "SHORTEST: of all decimals that ROUNDED by way 0 become the number, those with the fewest digits")
    static void theFewestDigits() {
        same("0.1", shortest(0, bits(0.1)), "1e-1");
        same("0.3", shortest(0, bits(0.3)), "3e-1");
        same("0.1 + 0.2", shortest(0, bits(0.1 + 0.2)), "3.0000000000000004e-1");
        same("the greatest of 0", shortest(0, GREATEST[0]), "1.7976931348623157e308");
        same("the greatest of 1", shortest(1, GREATEST[1]), "3.4028235e38");
        same("the greatest of 2", shortest(2, GREATEST[2]), "6.55e4");
        same("the greatest of 3", shortest(3, GREATEST[3]), "3.39e38");
        same("the least normal of 0", shortest(0, LEAST_NORMAL[0]), "2.2250738585072014e-308");
        same("the greatest subnormal of 0", shortest(0, GREATEST_SUBNORMAL[0]), "2.225073858507201e-308");
        same("the least normal of 2", shortest(2, LEAST_NORMAL[2]), "6.104e-5");
        same("the greatest subnormal of 2", shortest(2, GREATEST_SUBNORMAL[2]), "6.1e-5");
        same("minus", shortest(1, minus(1, GREATEST[1])), "-3.4028235e38");
        same("998244352 of 3, below a power of 10", shortest(3, 0x4e6e), "1e9");
        same("1002438656 of 3, above it", shortest(3, 0x4e6f), "1.002e9");
    }

    @Says(at = "Terms", words = "that ROUNDED by way 0 become the number")
    static void theMiddlesThemselves() {
        // 10^23 is the middle between the two, and goes to that whose fraction is even
        same("below 1e23", shortest(0, 0x44b52d02c7e14af6L), "1e23");
        same("above 1e23", shortest(0, 0x44b52d02c7e14af7L), "1.0000000000000001e23");
        same("479e19 is the middle below", shortest(0, 0x44703aa9a857e092L), "4.79e21");
        same("479e19 is the middle above, odd", shortest(0, 0x44703aa9a857e091L), "4.789999999999999e21");
        same("1.075e9 is the middle below, 1", shortest(1, 0x4e802666L), "1.075e9");
        same("1.077e9 is the middle above, 1", shortest(1, 0x4e80636eL), "1.077e9");
        same("4110 is the middle below 4112, 2", shortest(2, 0x6c04), "4.11e3");
        same("4110 is the middle above 4108, 2", shortest(2, 0x6c03), "4.108e3");
        same("4130 is the middle above 4128, 2", shortest(2, 0x6c08), "4.13e3");
        same("4130 is the middle below 4132, 2", shortest(2, 0x6c09), "4.132e3");
        same("550 is the middle below 552, 3", shortest(3, 0x440a), "5.5e2");
        same("550 is the middle above 548, 3", shortest(3, 0x4409), "5.48e2");
    }

    @Says(at = "Terms", words = "SHORTEST: of all decimals that ROUNDED by way 0 become the number")
    static void powersOfTwoHaveANearNeighbourBelow() {
        same("2^-44", shortest(0, bits(0x1p-44)), "5.684341886080802e-14");
        same("2^-1019", shortest(0, bits(0x1p-1019)), "1.7800590868057611e-307");
        same("2^25 of 1", shortest(1, 0x4c000000L), "3.3554432e7");
        same("2^-7 of 2", shortest(2, 0x2000), "7.812e-3");
        same("2^-6 of 2", shortest(2, 0x2400), "1.563e-2");
        same("2^-118 of 3", shortest(3, 0x0480), "3.01e-36");
        // as far below as above: the exponent is the least one
        same("2^-126 of 3", shortest(3, LEAST_NORMAL[3]), "1.18e-38");
        same("2^-125 of 3", shortest(3, 0x0100), "2.35e-38");
    }

    @Says(at = "Terms", words = "of these that which is nearest to it")
    static void theNearestOfTheFewest() {
        same("the least of 0", shortest(0, 1), "5e-324");
        same("the least of 1", shortest(1, 1), "1e-45");
        same("the least of 2", shortest(2, 1), "6e-8");
        same("the least of 3", shortest(3, 1), "9e-41");
        same("4 times the least of 0", shortest(0, 4), "2e-323");
        same("twice the least of 1", shortest(1, 2), "3e-45");
        same("minus, too", shortest(0, minus(0, 1)), "-5e-324");
        same("2^53 + 2", shortest(0, bits(9007199254740994.0)), "9.007199254740994e15");
    }

    @Says(at = "Terms", words = "of two as near that whose last digit is even. (0: one digit.)")
    static void theEvenDigitOfTwoAsNear() {
        same("2^50 + 1/4", shortest(0, bits(1125899906842624.25)), "1.1258999068426242e15");
        same("2^50 + 3/4", shortest(0, bits(1125899906842624.75)), "1.1258999068426248e15");
        same("2^21 + 1/4 of 1", shortest(1, 0x4a000001L), "2.0971522e6");
        same("2^21 + 3/4 of 1", shortest(1, 0x4a000003L), "2.0971528e6");
        same("256.25 of 2", shortest(2, 0x5c01), "2.562e2");
        same("256.75 of 2", shortest(2, 0x5c03), "2.568e2");
        same("32.25 of 3", shortest(3, 0x4201), "3.22e1");
        same("32.75 of 3", shortest(3, 0x4203), "3.28e1");
        same("-32.25 of 3", shortest(3, 0xc201), "-3.22e1");
        same("0", told(x -> x.shortest(0, 0, 1)), "+@1:0");
        same("-0", told(x -> x.shortest(3, 0x8000, 1)), "-@1:0");
    }

    @Says(at = "Terms", words = "EXACT: all digits up to the last that is not 0. (0: one digit.)")
    static void allDigits() {
        same("0.1", exact(0.1, 1), "0.1000000000000000055511151231257827021181583404541015625");
        same("10^22", told(x -> x.exact(0, bits(1e22), 1)), "+@23:1");
        same("1200", told(x -> x.exact(0, bits(1200.0), 0)), "+@4:12");
        same("0", told(x -> x.exact(0, 0, 1)), "+@1:0");
        FloatTexts x = new FloatTexts();
        x.exact(0, 1, 0);
        same("digits of the least of 0", x.decimal(0), 751);
        same("its point", x.decimal(1), -323);
        same("its first digit", x.digit(0), 4);
        same("its last digit", x.digit(750), 5);
        x.exact(0, GREATEST[0], 0);
        same("digits of the greatest of 0", x.decimal(0), 309);
        same("its point", x.decimal(1), 309);
        same("its last digit", x.digit(308), 8);
        x.exact(0, GREATEST_SUBNORMAL[0], 0);
        same("digits of the greatest subnormal of 0", x.decimal(0), 767);
    }

    @Says(at = "Terms", words = "SO MANY digits, or so many decimals (digits behind 10^0): the number, if that has no more")
    static void noMoreThanSoMany() {
        for (int way = 0; way < 5; way++) {
            same("12.5 in three digits by " + way, digits(12.5, 3, way), "1.25e1");
            same("-12.5 in three digits by " + way, digits(-12.5, 3, way), "-1.25e1");
            same("12.5 in four digits by " + way, digits(12.5, 4, way), "1.250e1");
            same("12.5 in one decimal by " + way, fixed(12.5, 1, way), "12.5");
            same("-12.5 in one decimal by " + way, fixed(-12.5, 1, way), "-12.5");
            same("-12.5 in two decimals by " + way, fixed(-12.5, 2, way), "-12.50");
            same("9 in one digit by " + way, digits(9, 1, way), "9e0");
            same("-9 in no decimals by " + way, fixed(-9, 0, way), "-9");
        }
    }

    @Says(at = "Terms", words = "0 the nearer one, of two as near that whose last digit is even")
    static void soManyByWayZero() {
        same("2.5, no decimals", fixed(2.5, 0, 0), "2");
        same("3.5, no decimals", fixed(3.5, 0, 0), "4");
        same("-2.5, no decimals", fixed(-2.5, 0, 0), "-2");
        same("-3.5, no decimals", fixed(-3.5, 0, 0), "-4");
        same("a little more than 2.5", fixed(Math.nextUp(2.5), 0, 0), "3");
        same("a little less than 3.5", fixed(Math.nextDown(3.5), 0, 0), "3");
        same("0.5, no decimals", fixed(0.5, 0, 0), "0");
        same("a little more than 0.5", fixed(Math.nextUp(0.5), 0, 0), "1");
        same("0.125, two decimals", fixed(0.125, 2, 0), "0.12");
        same("0.375, two decimals", fixed(0.375, 2, 0), "0.38");
        same("25 in a digit", digits(25, 1, 0), "2e1");
        same("35 in a digit", digits(35, 1, 0), "4e1");
        same("26 in a digit", digits(26, 1, 0), "3e1");
        same("-125 in two digits", digits(-125, 2, 0), "-1.2e2");
        same("250 in a digit", digits(250, 1, 0), "2e2");
        same("251 in a digit", digits(251, 1, 0), "3e2");
        same("-250000001 in a digit", digits(-250000001, 1, 0), "-3e8");
        same("349999999999 in a digit", digits(349999999999.0, 1, 0), "3e11");
    }

    @Says(at = "Terms", words = "1 the nearer one, of two as near the greater size; 2 the lesser size; 3 the greater number; 4 the lesser one.")
    static void soManyByWayOne() {
        same("2.5, no decimals", fixed(2.5, 0, 1), "3");
        same("-2.5, no decimals", fixed(-2.5, 0, 1), "-3");
        same("a little less than 2.5", fixed(Math.nextDown(2.5), 0, 1), "2");
        same("0.5, no decimals", fixed(0.5, 0, 1), "1");
        same("a little less than 0.5", fixed(Math.nextDown(0.5), 0, 1), "0");
        same("-25 in a digit", digits(-25, 1, 1), "-3e1");
        same("24 in a digit", digits(24, 1, 1), "2e1");
        same("95 in a digit", digits(95, 1, 1), "1e2");
    }

    @Says(at = "Terms", words = "2 the lesser size; 3 the greater number; 4 the lesser one.")
    static void soManyByWayTwo() {
        same("2.75, no decimals", fixed(2.75, 0, 2), "2");
        same("-2.75, no decimals", fixed(-2.75, 0, 2), "-2");
        same("a little less than 1", fixed(Math.nextDown(1.0), 0, 2), "0");
        same("29 in a digit", digits(29, 1, 2), "2e1");
        same("-99 in a digit", digits(-99, 1, 2), "-9e1");
    }

    @Says(at = "Terms", words = "3 the greater number; 4 the lesser one.")
    static void soManyByWayThree() {
        same("2.25, no decimals", fixed(2.25, 0, 3), "3");
        same("-2.75, no decimals", fixed(-2.75, 0, 3), "-2");
        same("the least number, no decimals", fixed(Double.MIN_VALUE, 0, 3), "1");
        same("less than 0, no decimals", fixed(-Double.MIN_VALUE, 0, 3), "-0");
        same("21 in a digit", digits(21, 1, 3), "3e1");
        same("-29 in a digit", digits(-29, 1, 3), "-2e1");
        same("91 in a digit", digits(91, 1, 3), "1e2");
        same("201 in a digit", digits(201, 1, 3), "3e2");
        same("200000000001 in a digit", digits(200000000001.0, 1, 3), "3e11");
    }

    @Says(at = "Terms", words = "4 the lesser one.")
    static void soManyByWayFour() {
        same("2.75, no decimals", fixed(2.75, 0, 4), "2");
        same("-2.25, no decimals", fixed(-2.25, 0, 4), "-3");
        same("the least number, no decimals", fixed(Double.MIN_VALUE, 0, 4), "0");
        same("less than 0, no decimals", fixed(-Double.MIN_VALUE, 0, 4), "-1");
        same("29 in a digit", digits(29, 1, 4), "2e1");
        same("-21 in a digit", digits(-21, 1, 4), "-3e1");
        same("-91 in a digit", digits(-91, 1, 4), "-1e2");
        same("-201 in a digit", digits(-201, 1, 4), "-3e2");
        same("-200000000001 in a digit", digits(-200000000001.0, 1, 4), "-3e11");
    }

    /** 2^-1074 has 1074 decimals, which end with 265625. */
    @Says(at = "Terms", words = "of the two decimals next to it of so many, that by a way")
    static void soManyOfTheLeastNumber() {
        int[][] lastDigits = {{2, 3, 2, 3, 2}, {6, 6, 6, 7, 6}, {6, 6, 5, 6, 5}};
        for (int way = 0; way < 5; way++) {
            for (int less = 1; less < 4; less++) {
                FloatTexts x = new FloatTexts();
                same("bytes of fixed", x.fixed(0, 1, 1074 - less, way), 1076 - less);
                same("its last digit without " + less + " by " + way, x.digit(750 - less), lastDigits[less - 1][way]);
                same("bytes of digits", x.digits(0, 1, 751 - less, way, 1), 1076 - less);
                same("its last digit without " + less + " by " + way, x.digit(750 - less), lastDigits[less - 1][way]);
            }
        }
        same("all of them but the first", out(x -> x.digits(0, 1, 1, 0, 0)), "5e-324");
        same("324 decimals", told(x -> x.fixed(0, 1, 324, 0)), "+@-323:5");
        same("323 decimals", told(x -> x.fixed(0, 1, 323, 3)), "+@-322:1");
    }

    @Says(at = "Terms", words = "With digits 0 behind, as many as there must be")
    static void zerosBehind() {
        same("2 in 800 digits", digits(2, 800, 0), "2." + "0".repeat(799) + "e0");
        same("2 in 1100 decimals", fixed(2, 1100, 0), "2." + "0".repeat(1100));
        same("0.5 in four digits", told(x -> x.digits(0, bits(0.5), 4, 0, 0)), "+@0:5000");
        same("0.5 in four decimals", told(x -> x.fixed(0, bits(0.5), 4, 0)), "+@0:5000");
        same("1000 in two digits", told(x -> x.digits(0, bits(1000), 2, 0, 0)), "+@4:10");
        same("1000 in two decimals", told(x -> x.fixed(0, bits(1000), 2, 0)), "+@4:100000");
        same("1001 in three digits", told(x -> x.digits(0, bits(1001), 3, 0, 0)), "+@4:100");
    }

    @Says(at = "Terms", words = "(what goes up to 10, 100, .. has them, too)")
    static void whatGoesUpToTen() {
        same("9.5 in a digit", told(x -> x.digits(0, bits(9.5), 1, 0, 0)), "+@2:1");
        same("9.96 in two digits", told(x -> x.digits(0, bits(9.96), 2, 0, 0)), "+@2:10");
        same("9.96 in two digits, its text", digits(9.96, 2, 0), "1.0e1");
        same("99.96 in three digits", told(x -> x.digits(0, bits(99.96), 3, 0, 1)), "+@3:100");
        same("999.5 in three digits", told(x -> x.digits(0, bits(999.5), 3, 1, 0)), "+@4:100");
        same("-0.999 in two digits", told(x -> x.digits(0, bits(-0.999), 2, 4, 0)), "-@1:10");
        same("9.96 in one decimal", told(x -> x.fixed(0, bits(9.96), 1, 0)), "+@2:100");
        same("9.96 in one decimal, its text", fixed(9.96, 1, 0), "10.0");
        same("0.96 in one decimal", told(x -> x.fixed(0, bits(0.96), 1, 0)), "+@1:10");
        same("0.096 in two decimals", told(x -> x.fixed(0, bits(0.096), 2, 0)), "+@0:10");
        same("0.006 in two decimals", told(x -> x.fixed(0, bits(0.006), 2, 0)), "+@-1:1");
        same("999999999.5, no decimals", fixed(999999999.5, 0, 1), "1000000000");
        same("the greatest of 0 in two digits", out(x -> x.digits(0, GREATEST[0], 2, 3, 0)), "1.8e308");
    }

    @Says(at = "Terms", words = "FORMS of a text: - with the sign minus")
    static void theSignOfAText() {
        for (int form = 0; form < 3; form++) {
            int as = form;
            same("-0.5", out(x -> x.shortest(0, bits(-0.5), as)).substring(0, 1), "-");
            same("0.5", out(x -> x.shortest(0, bits(0.5), as)).substring(0, 1), form == 0 ? "5" : "0");
            same("-0", out(x -> x.exact(0, bits(-0.0), as)).substring(0, 2), "-0");
        }
    }

    @Says(at = "Terms", words = "then with form 0 d1, a point and the other digits (no point without such), e, p - 1 (- before it below 0).")
    static void formZero() {
        same("one digit", exact(5, 0), "5e0");
        same("two digits", exact(15, 0), "1.5e1");
        same("p - 1 is -1", exact(0.5, 0), "5e-1");
        same("p - 1 is -2", exact(0.0625, 0), "6.25e-2");
        same("p - 1 is 9", exact(1e9, 0), "1e9");
        same("p - 1 is 10", exact(1e10, 0), "1e10");
        same("p - 1 is 100", shortest(0, bits(1e100)), "1e100");
        same("p - 1 is -10", shortest(0, bits(-1e-10)), "-1e-10");
        same("p - 1 is -99", shortest(0, bits(1e-99)), "1e-99");
        same("p - 1 is -100", shortest(0, bits(1e-100)), "1e-100");
        same("digits 0 behind", digits(5, 2, 0), "5.0e0");
        same("0", exact(0, 0), "0e0");
        same("0 in two digits", digits(-0.0, 2, 0), "-0.0e0");
    }

    @Says(at = "Terms", words = "Form 1: with p below 1: 0, a point, - p times 0, all digits")
    static void formOneBelowOne() {
        same("p is 0", exact(0.5, 1), "0.5");
        same("p is -1", exact(0.0625, 1), "0.0625");
        same("p is -6, minus", out(x -> x.shortest(0, bits(-1e-7), 1)), "-0.0000001");
        same("p is -323", out(x -> x.shortest(0, 1, 1)), "0." + "0".repeat(323) + "5");
        same("digits 0 behind", out(x -> x.digits(0, bits(0.5), 3, 0, 1)), "0.500");
    }

    @Says(at = "Terms", words = "else p digits (0 for those behind the last one), and if there are more digits a point and these.")
    static void formOneFromOneOn() {
        same("p is 1", exact(2.5, 1), "2.5");
        same("p is 1 with a digit", exact(5, 1), "5");
        same("p is 2 with two digits", exact(25, 1), "25");
        same("p is 2 with one digit", exact(20, 1), "20");
        same("p is 2 with three digits", exact(20.5, 1), "20.5");
        same("10^22", exact(1e22, 1), "1" + "0".repeat(22));
        same("12345 in two digits", out(x -> x.digits(0, bits(12345), 2, 0, 1)), "12000");
        same("p is 309", out(x -> x.shortest(0, GREATEST[0], 1)), "17976931348623157" + "0".repeat(292));
        same("0 in two digits", out(x -> x.digits(0, 0, 2, 0, 1)), "0.0");
        FloatTexts x = new FloatTexts();
        x.exact(0, bits(9876543210.0), 1);
        same("20 behind a longer one", x.exact(0, bits(20), 1), 2);
        same("its text", outNow(x, 2), "20");
        x.exact(0, bits(9876543210.0), 1);
        same("12345 in two digits behind a longer one", x.digits(0, bits(12345), 2, 0, 1), 5);
        same("its text", outNow(x, 5), "12000");
    }

    @Says(at = "Terms", words = "Form 2: as form 1 if p - 1 is -6 .. 20, otherwise as form 0.")
    static void formTwo() {
        same("p - 1 is -7", out(x -> x.shortest(0, bits(9e-7), 2)), "9e-7");
        same("p - 1 is -6", out(x -> x.shortest(0, bits(1e-6), 2)), "0.000001");
        same("p - 1 is -7, more digits", out(x -> x.shortest(0, bits(-1.25e-7), 2)), "-1.25e-7");
        same("p - 1 is -6, more digits", out(x -> x.shortest(0, bits(-1.25e-6), 2)), "-0.00000125");
        same("p - 1 is 20", out(x -> x.shortest(0, bits(1e20), 2)), "100000000000000000000");
        same("p - 1 is 20, the most", out(x -> x.shortest(0, bits(9e20), 2)), "900000000000000000000");
        same("p - 1 is 21", out(x -> x.shortest(0, bits(1e21), 2)), "1e21");
        same("p - 1 is 21, more digits", out(x -> x.shortest(0, bits(-1.25e21), 2)), "-1.25e21");
        same("goes up to p - 1 = -6", out(x -> x.digits(0, bits(9.5e-7), 1, 3, 2)), "0.000001");
        same("goes up to p - 1 = 21", out(x -> x.digits(0, bits(9.5e20), 1, 3, 2)), "1e21");
        same("0", out(x -> x.shortest(0, 0, 2)), "0");
    }

    @Says(at = "Terms", words = "INFINITE: inf, a NAN: nan, both with - before it if the sign is minus; these have no digits, point 0.")
    static void infAndNan() {
        for (int f = 0; f < 4; f++) {
            names(f, INFINITE[f], "inf");
            names(f, INFINITE[f] + 1, "nan");
            names(f, SIGN[f] - 1, "nan");
        }
    }

    private static void names(int f, long pattern, String name) {
        for (int form = 0; form < 3; form++) {
            int as = form;
            named(f, pattern, name, (x, bits) -> x.shortest(f, bits, as));
            named(f, pattern, name, (x, bits) -> x.exact(f, bits, as));
            named(f, pattern, name, (x, bits) -> x.digits(f, bits, 800, 4, as));
        }
        named(f, pattern, name, (x, bits) -> x.fixed(f, bits, 1100, 3));
        named(f, pattern, name, (x, bits) -> x.hex(f, bits));
    }

    private interface Writing {
        int of(FloatTexts x, long bits);
    }

    private static void named(int f, long pattern, String name, Writing writing) {
        same("a name", out(x -> writing.of(x, pattern)), name);
        same("with minus", out(x -> writing.of(x, minus(f, pattern))), "-" + name);
        same("no digits", told(x -> writing.of(x, pattern)), "+@0:");
        same("no digits with minus", told(x -> writing.of(x, minus(f, pattern))), "-@0:");
    }

    @Says(at = "Terms", words = "HEXADECIMAL: - with the sign minus, 0x, then the size as 1, a point, digits 0 .. 9 a .. f")
    static void hexadecimalDigits() {
        same("all digits", out(x -> x.hex(0, 0x3ff0123456789abcL)), "0x1.0123456789abcp0");
        same("the others", out(x -> x.hex(0, 0xbffdef0000000001L)), "-0x1.def0000000001p0");
        same("of 1, whose last digit is even", out(x -> x.hex(1, 0x3fffffffL)), "0x1.fffffep0");
        same("of 2", out(x -> x.hex(2, 0xbfff)), "-0x1.ffcp0");
        same("of 3", out(x -> x.hex(3, 0x3fff)), "0x1.fep0");
        same("a subnormal one begins with 1, too", out(x -> x.hex(0, 3)), "0x1.8p-1073");
        same("and so does the greatest of these", out(x -> x.hex(2, 0x83ff)), "-0x1.ff8p-15");
    }

    @Says(at = "Terms", words = "without needless 0 at the end (no point without any)")
    static void noNeedlessZeros() {
        same("1", out(x -> x.hex(0, ONE[0])), "0x1p0");
        same("1.5", out(x -> x.hex(0, bits(1.5))), "0x1.8p0");
        same("0x1.01", out(x -> x.hex(0, bits(0x1.01p0))), "0x1.01p0");
        same("the least", out(x -> x.hex(1, 1)), "0x1p-149");
        same("a 0 before another digit", out(x -> x.hex(3, 0x3f82)), "0x1.04p0");
    }

    @Says(at = "Terms", words = "p, the exponent of 2 as a decimal number (- before it below 0)")
    static void theExponentOfTwo() {
        same("0", out(x -> x.hex(0, bits(1))), "0x1p0");
        same("9", out(x -> x.hex(0, bits(512))), "0x1p9");
        same("10", out(x -> x.hex(0, bits(1024))), "0x1p10");
        same("-1", out(x -> x.hex(0, bits(-0.5))), "-0x1p-1");
        same("99", out(x -> x.hex(0, bits(0x1p99))), "0x1p99");
        same("100", out(x -> x.hex(0, bits(0x1p100))), "0x1p100");
        same("1000", out(x -> x.hex(0, bits(0x1p1000))), "0x1p1000");
        same("1023", out(x -> x.hex(0, bits(0x1p1023))), "0x1p1023");
        same("-1022", out(x -> x.hex(0, LEAST_NORMAL[0])), "0x1p-1022");
        same("-1023", out(x -> x.hex(0, LEAST_NORMAL[0] / 2)), "0x1p-1023");
        same("-1074", out(x -> x.hex(0, 1)), "0x1p-1074");
    }

    @Says(at = "Terms", words = "0 is 0x0p0; inf and nan as above.")
    static void hexadecimalZeroInfAndNan() {
        for (int f = 0; f < 4; f++) {
            int format = f;
            same("0", out(x -> x.hex(format, 0)), "0x0p0");
            same("-0", out(x -> x.hex(format, SIGN[format])), "-0x0p0");
            same("inf", out(x -> x.hex(format, INFINITE[format])), "inf");
            same("-inf", out(x -> x.hex(format, minus(format, INFINITE[format]))), "-inf");
            same("nan", out(x -> x.hex(format, NAN[format])), "nan");
            same("-nan", out(x -> x.hex(format, minus(format, INFINITE[format] + 1))), "-nan");
        }
    }
}
