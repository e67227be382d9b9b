/** Promises 7 and 8: looks in GENERAL and NUMBER sections, with powers and without. */
public final class NumberLookTest {
    public static void main(String[] args) {
        Bench b = new Bench();
        oneLook(b);
        literals(b);
        generalDigits(b);
        generalPlain(b);
        generalOtherwise(b);
        rounding(b);
        wholePlaces(b);
        thousands(b);
        noWholePlace(b);
        decimals(b);
        point(b);
        powers(b);
        powersThatGrow(b);
        powerLooks(b);
        b.end();
    }

    private static void oneLook(Bench b) {
        b.sentence("Codes that say how numbers and texts look: sections for what is above, below and just 0 and for texts, places "
            + "for digits with thousands, percents and powers, fractions with the nearest denominators, dates and times with a "
            + "calendar of its own, words and signs between; codes are read strictly, and each value has one look.");
        String[] codes = {"General", "0", "#,##0.0##", "0.00E+00", "##0.0E-0", "# ?/?", "0/8", "yyyy-mm-dd h:mm:ss.0", "0%", "0,"};
        String[] looks = {"1250.5", "1251", "1,250.5", "1.25E+03", "1.3E3", "1250 1/2", "10004/8", "1903-06-03 12:00:00.0",
            "125050%", "1"};
        for (int i = 0; i < codes.length; i++) {
            b.dueLook(codes[i], "1250.5", looks[i]);
            b.dueLook(codes[i], "1250.5000000000000", looks[i]);
            b.dueLook(codes[i], "1.2505E3", looks[i]);
        }
        String[] noughts = {"0", "0", "0.0", "0.00E+00", "0.0E0", "    ", "0/8", "1900-01-00 0:00:00.0", "0%", "0"};
        for (int i = 0; i < codes.length; i++) {
            b.dueLook(codes[i], "0", noughts[i]);
            b.dueLook(codes[i], "0E300", noughts[i]);
            b.dueLook(codes[i], "-0E-350", noughts[i]);
        }
    }

    private static void literals(Bench b) {
        b.sentence("LOOKS, item by item; literals are themselves, and stand where they stand:");
        b.dueLook("\"a\"0\"b\"0\"c\".\"d\"0\"e\"0\"f\"", "12.34", "a1b2c.d3e4f");
        b.dueLook("0\"x\"0", "12345", "1234x5");
        b.dueLook("\"a\"#\"b\"", "0", "ab");
        b.dueLook("<0E+0>", "5", "<5E+0>");
        b.dueLook("\"a\"0\"b\"0/0\"c\"", "2", "a2b   c");
    }

    private static void generalDigits(Bench b) {
        b.sentence("GENERAL: the number's digits (v without zeros at its end) and its scale, as with numerals:");
        b.dueLook("General", "5000E-3", "5");
        b.dueLook("General", "5000E-4", "0.5");
        b.dueLook("General", "10000000000000000E-16", "1");
        b.dueLook("General", "10000000000000000E5", "1E21");
        b.dueLook("General", "10000000000000000E4", "1" + "0".repeat(20));
        b.dueLook("General", "10000000000000000E-22", "0.000001");
        b.dueLook("General", "10000000000000000E-23", "1E-7");
        b.dueLook("General", "10500E0", "10500");
    }

    private static void generalPlain(Bench b) {
        b.sentence("0, or for 0.d1 .. dn times 10^p: p -5 .. 21: plain (0. and -p zeros and the digits; or digits with a point "
            + "behind p of them; or digits and p - n zeros);");
        String c = "General";
        b.dueLook(c, "0", "0");
        b.dueLook(c, "0E300", "0");
        b.dueLook(c, "1200", "1200");
        b.dueLook(c, "1.200", "1.2");
        b.dueLook(c, "0.5", "0.5");
        b.dueLook(c, "0.05", "0.05");
        b.dueLook(c, "0.000001", "0.000001");
        b.dueLook(c, "0.0000010", "0.000001");
        b.dueLook(c, "0.00000123", "0.00000123");
        b.dueLook(c, "12345.678", "12345.678");
        b.dueLook(c, "12345678901234567", "12345678901234567");
        b.dueLook(c, "1234567890123456.7", "1234567890123456.7");
        b.dueLook(c, "0.12345678901234567", "0.12345678901234567");
        b.dueLook(c, "1E20", "100000000000000000000");
        b.dueLook(c, "12E19", "120000000000000000000");
        b.dueLook(c, "99999999999999999E4", "999999999999999990000");
    }

    private static void generalOtherwise(Bench b) {
        b.sentence("otherwise d1, a point and the others if there are any, E, perhaps -, p - 1.");
        String c = "General";
        b.dueLook(c, "1E21", "1E21");
        b.dueLook(c, "10E20", "1E21");
        b.dueLook(c, "123E19", "1.23E21");
        b.dueLook(c, "0.0000001", "1E-7");
        b.dueLook(c, "0.000000123", "1.23E-7");
        b.dueLook(c, "-0.000000999", "-9.99E-7");
        b.dueLook(c, "99999999999999999E300", "9.9999999999999999E316");
        b.dueLook(c, "1E-350", "1E-350");
    }

    private static void rounding(Bench b) {
        b.sentence("NUMBER: the number, times 100 for each %, a thousandth for each such comma, is rounded to as many digits behind the "
            + "point as there are decimal places (halves away from 0).");
        b.dueLook("0", "0.5", "1");
        b.dueLook("0", "0.49999999999999999", "0");
        b.dueLook("0", "2.5", "3");
        b.dueLook("0", "-2.5", "-3");
        b.dueLook("0.0", "0.05", "0.1");
        b.dueLook("0.0", "0.049", "0.0");
        b.dueLook("0.00", "1.005", "1.01");
        b.dueLook("0.00", "-1.005", "-1.01");
        b.dueLook("0.00", "1.0049999999999999", "1.00");
        b.dueLook("0.0", "9.95", "10.0");
        b.dueLook("0", "99999999999999999E-17", "1");
        b.dueLook("0", "99999999999999999E-18", "0");
        b.dueLook("0%", "0.125", "13%");
        b.dueLook("0%", "0.004999", "0%");
        b.dueLook("%0%", "0.125", "%1250%");
        b.dueLook("0,", "1500", "2");
        b.dueLook("0,", "1499", "1");
        b.dueLook("0,", "500", "1");
        b.dueLook("0,,.00", "12345678", "12.35");
        b.dueLook("0,%", "12345", "1235%");
        b.dueLook("0.0", "1E-350", "0.0");
        b.dueLook("0", "1E300", "1" + "0".repeat(300));
        b.dueLook("0" + ",".repeat(63), "5E188", "1");
        b.dueLook("0" + ",".repeat(63), "4.9E188", "0");
    }

    private static void wholePlaces(Bench b) {
        b.sentence("Behind - , if it has one, its whole digits (none for 0) stand in the whole places from the last one on; those "
            + "that are left over stand before the first one; places that are left: 0 gives 0, ? a space, # nothing.");
        b.dueLook("0000", "12", "0012");
        b.dueLook("????", "12", "  12");
        b.dueLook("####", "12", "12");
        b.dueLook("#?0", "0", " 0");
        b.dueLook("?0?", "0", " 0 ");
        b.dueLook("0#", "0", "0");
        b.dueLook("0?#", "0", "0 ");
        b.dueLook("#", "0", "");
        b.dueLook("?", "0", " ");
        b.dueLook("0-0-0", "12345", "123-4-5");
        b.dueLook("0-0-0", "-12345", "-123-4-5");
        b.dueLook("0-0-0", "12", "0-1-2");
        b.dueLook("\"a\"0", "123", "a123");
        b.dueLook("000", "123", "123");
        b.dueLook("000", "1234", "1234");
        b.dueLook("0".repeat(64), "5", "0".repeat(63) + "5");
    }

    private static void thousands(Bench b) {
        b.sentence("With thousands, a comma stands behind each digit or 0 that is given, of which just 3, 6, .. whole places or "
            + "left over digits come behind (not behind spaces).");
        b.dueLook("#,##0", "0", "0");
        b.dueLook("#,##0", "123", "123");
        b.dueLook("#,##0", "1234", "1,234");
        b.dueLook("#,##0", "123456", "123,456");
        b.dueLook("#,##0", "1234567", "1,234,567");
        b.dueLook("0,000", "5", "0,005");
        b.dueLook("0,000000", "5", "0,000,005");
        b.dueLook("?,???", "5", "   5");
        b.dueLook("?,???", "1005", "1,005");
        b.dueLook("0?,???", "5", "0   5");
        b.dueLook("0#,###", "5", "05");
        b.dueLook("0,0", "1234567", "1,234,567");
        b.dueLook("0,0", "1E9", "1,000,000,000");
        b.dueLook("0,0\"x\"000", "12345", "12,x345");
        b.dueLook("0,0\"x\"00", "12345", "12,3x45");
        b.dueLook("#,#", "-1234.5", "-1,235");
        b.dueLook("0,0.0000", "1234.5678", "1,234.5678");
        b.dueLook("#,##0,", "1234567890", "1,234,568");
        b.dueLook("0000", "1234567", "1234567");
    }

    private static void noWholePlace(Bench b) {
        b.sentence("Without any whole place, whole digits stand before the point.");
        b.dueLook(".00", "12.345", "12.35");
        b.dueLook(".0", "0.5", ".5");
        b.dueLook(".0", "0", ".0");
        b.dueLook(".0", "0.96", "1.0");
        b.dueLook("\"a\".0", "-12", "-a12.0");
        b.dueLook("\"a\".0\"b\"", "1E20", "a1" + "0".repeat(20) + ".0b");
    }

    private static void decimals(Bench b) {
        b.sentence("Decimal digits from the first on: # gives nothing, ? a space, where it and all behind it are 0; otherwise the "
            + "digit.");
        b.dueLook("0.000", "1.5", "1.500");
        b.dueLook("0.0##", "1.5", "1.5");
        b.dueLook("0.0??", "1.5", "1.5  ");
        b.dueLook("0.###", "1.05", "1.05");
        b.dueLook("0.???", "1.05", "1.05 ");
        b.dueLook("0.#0", "1", "1.0");
        b.dueLook("0.?0", "1", "1. 0");
        b.dueLook("0.#?", "1", "1. ");
        b.dueLook("0.##0#", "1.001", "1.001");
        b.dueLook("0.##0#", "1.0001", "1.0001");
        b.dueLook("0.0\"x\"0", "1.25", "1.2x5");
        b.dueLook("0.0000000000000000000", "1.5E-17", "0.0000000000000000150");
        b.dueLook("0." + "#".repeat(62), "1E-62", "0." + "0".repeat(61) + "1");
        b.dueLook("0." + "#".repeat(62), "4E-63", "0.");
    }

    private static void point(Bench b) {
        b.sentence("The point is always there if it is in the section.");
        b.dueLook("0.", "5", "5.");
        b.dueLook("#.#", "0", ".");
        b.dueLook("0.#", "1", "1.");
        b.dueLook("#.", "0", ".");
        b.dueLook("0.#E+0", "5", "5.E+0");
    }

    private static void powers(Bench b) {
        b.sentence("POWER: with w whole places (1 at least), e is the greatest multiple of w for which the number divided by 10^e is not "
            + "below 1 (0 for 0);");
        b.dueLook("0E+0", "1", "1E+0");
        b.dueLook("0E+0", "0.9", "9E-1");
        b.dueLook("0E+0", "10", "1E+1");
        b.dueLook("##0E+0", "1", "1E+0");
        b.dueLook("##0E+0", "999", "999E+0");
        b.dueLook("##0E+0", "1000", "1E+3");
        b.dueLook("##0E+0", "0.1", "100E-3");
        b.dueLook("##0.0E+0", "0.00012", "120.0E-6");
        b.dueLook("00E+0", "0.5", "50E-2");
        b.dueLook("00E+0", "100", "01E+2");
        b.dueLook("0000E+0", "123456", "0012E+4");
        b.dueLook(".00E+0", "123", "1.23E+2");
        b.dueLook(".0E+0", "0.5", "5.0E-1");
        b.dueLook("0E+0", "0", "0E+0");
        b.dueLook("##0E+0", "0", "0E+0");
        b.dueLook("0E+0", "99999999999999999E300", "1E+317");
        b.dueLook("0E+0", "1E-350", "1E-350");
        b.dueLook("##0E+0", "1E-350", "10E-351");
    }

    private static void powersThatGrow(Bench b) {
        b.sentence("it is rounded to its decimal places; if then it has more whole digits than w it is that for e and w more.");
        b.dueLook("0E+0", "9.4", "9E+0");
        b.dueLook("0E+0", "9.5", "1E+1");
        b.dueLook("0.0E+00", "9.94", "9.9E+00");
        b.dueLook("0.0E+00", "9.96", "1.0E+01");
        b.dueLook("##0E+0", "-999.6", "-1E+3");
        b.dueLook("##0E+0", "99.6", "100E+0");
        b.dueLook("##0.0E+0", "999.95", "1.0E+3");
        b.dueLook("00E+0", "99.5", "01E+2");
        b.dueLook("0E+0", "0.95", "1E+0");
        b.dueLook(".0E+0", "9.95", "1.0E+1");
    }

    private static void powerLooks(Bench b) {
        b.sentence("It looks as a NUMBER does, then E, then - for e below 0, + otherwise with E+, and e in its places as whole "
            + "digits.");
        b.dueLook("000E+0", "1", "001E+0");
        b.dueLook("?0.0#E-0", "5", " 5.0E0");
        b.dueLook("0E-0", "5", "5E0");
        b.dueLook("0E-0", "50", "5E1");
        b.dueLook("0E-0", "0.5", "5E-1");
        b.dueLook("0E+0", "0.5", "5E-1");
        b.dueLook("0E+#", "5", "5E+");
        b.dueLook("0E-#", "5", "5E");
        b.dueLook("0E+?", "5", "5E+ ");
        b.dueLook("0e-??", "5E-3", "5E- 3");
        b.dueLook("0E+000", "2E5", "2E+005");
        b.dueLook("0E+0", "2E123", "2E+123");
        b.dueLook("0E+#0#", "2E5", "2E+05");
        b.dueLook("\"<\"0.0#E-0\">\"", "1000", "<1.0E3>");
    }
}
