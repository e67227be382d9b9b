/** Promises 7 and 8: looks with a fraction. */
public final class FractionLookTest {
    public static void main(String[] args) {
        Bench b = new Bench();
        nearest(b);
        fifteenDigits(b);
        ofSeveral(b);
        noWholePlace(b);
        nineWholeDigits(b);
        wholeMore(b);
        wholeDigits(b);
        spaces(b);
        numerator(b);
        denominator(b);
        b.end();
    }

    private static void nearest(Bench b) {
        b.sentence("FRACTION: the number's whole part, and the rest as n / d: of all d from 1 to 10^k - 1 for k places (or just the number "
            + "that is given) and n from 0 to d that which is nearest to the rest");
        b.dueLook("# ?/?", "1.5", "1 1/2");
        b.dueLook("# ?/?", "0.1", " 1/9");
        b.dueLook("# ?/??", "0.1", " 1/10");
        b.dueLook("# ?/??", "0.01", " 1/99");
        b.dueLook("# ?/???", "0.01", " 1/100");
        b.dueLook("# ?/???", "0.001", " 1/999");
        b.dueLook("# ?/???", "0.9989", " 908/909");
        b.dueLook("# ?/???", "3.14159265358979", "3 16/113");
        b.dueLook("# ?/?", "0.05", "    ");
        b.dueLook("# ?/?", "0.06", " 1/9");
        b.dueLook("# ?/?", "7", "7    ");
        b.dueLook("# ?/100", "0.125", " 12/100");
        b.dueLook("# ?/100", "0.126", " 13/100");
        b.dueLook("# ?/999", "0.5", " 499/999");
        b.dueLook("# ?/1", "0.6", "1    ");
        b.dueLook("# ?/4", "0.25", " 1/4");
        b.dueLook("# ?/4", "0.12", "    ");
        b.dueLook("# ?/?", "1E-350", "    ");
    }

    private static void fifteenDigits(Bench b) {
        b.sentence("(the rest first rounded to 15 digits, halves up)");
        b.dueLook("0/1", "0.5", "0/1");
        b.dueLook("0/1", "0.5000000000000004", "0/1");
        b.dueLook("0/1", "0.50000000000000049", "0/1");
        b.dueLook("0/1", "0.5000000000000005", "1/1");
        b.dueLook("0/1", "0.50000000000000051", "1/1");
        b.dueLook("0/1", "3.5000000000000004", "3/1");
        b.dueLook("0/1", "3.5000000000000005", "4/1");
        b.dueLook("# ?/?", "0.9999999999999995", "1    ");
        b.dueLook("0 ?/?", "0.99999999999999949", "1    ");
    }

    private static void ofSeveral(Bench b) {
        b.sentence("of several the least d, then the least n.");
        b.dueLook("# ?/##", "0.5", " 1/2");
        b.dueLook("# ?/###", "0.25", " 1/4");
        b.dueLook("# ?/?", "0.6125", " 3/5");
        b.dueLook("# ?/?", "0.61251", " 5/8");
        b.dueLook("# ?/?", "0.3875", " 2/5");
        b.dueLook("# ?/?", "0.38749", " 3/8");
        b.dueLook("0/1", "0.5", "0/1");
        b.dueLook("0/3", "0.5", "1/3");
        b.dueLook("0/9", "0.5", "4/9");
        b.dueLook("0/999", "0.5", "499/999");
    }

    private static void noWholePlace(Bench b) {
        b.sentence("If there is no whole place, n is n and d times the whole part");
        b.dueLook("0/0", "2.5", "5/2");
        b.dueLook("?/?", "2.999", "3/1");
        b.dueLook("?/?", "0.999", "1/1");
        b.dueLook("0/8", "2", "16/8");
        b.dueLook("0/8", "-2", "-16/8");
        b.dueLook("0/199", "1", "199/199");
        b.dueLook("0/0", "12E3", "12000/1");
        b.dueLook("0/8", "1E8", "800000000/8");
        b.dueLook("?/?", "3", "3/1");
        b.dueLook("??/??", "3.14159", "311/99");
    }

    private static void nineWholeDigits(Bench b) {
        b.sentence("(with more than nine whole digits the look is one # then)");
        b.dueLook("#/#", "999999999", "999999999/1");
        b.dueLook("#/#", "999999999.5", "1999999999/2");
        b.dueLook("0/999", "999999999", "998999999001/999");
        b.dueLook("#/#", "999999999.99999999", "1000000000/1");
        b.dueLook("#/#", "1000000000", "#");
        b.dueLook("\"a\"#/#", "1000000000.5", "#");
        b.dueLook("#/#", "-1000000000.5", "#");
        b.dueLook("#/#", "1E9", "#");
        b.dueLook("#/8", "1E300", "#");
        b.dueLook("0;0/0", "-1E9", "#");
        b.dueLook("0 #/#", "1000000000.5", "1000000000 1/2");
    }

    private static void wholeMore(Bench b) {
        b.sentence("If n is d and there are whole places, the whole part is 1 more, and n 0.");
        b.dueLook("# ?/?", "0.999", "1    ");
        b.dueLook("# ?/?", "9.999", "10    ");
        b.dueLook("# ?/?", "-0.999", "-1    ");
        b.dueLook("0 ?/8", "0.94", "1    ");
        b.dueLook("0 ?/8", "0.93", "0 7/8");
        b.dueLook("0 ?/?", "999999999.999", "1000000000    ");
        b.dueLook("0/8", "0.999", "8/8");
    }

    private static void wholeDigits(Bench b) {
        b.sentence("Then whole digits in their places;");
        b.dueLook("000 0/0", "1.5", "001 1/2");
        b.dueLook("??? 0/0", "1.5", "  1 1/2");
        b.dueLook("### 0/0", "0.5", " 1/2");
        b.dueLook("0 0/0", "0.5", "0 1/2");
        b.dueLook("0 0/0", "1234.5", "1234 1/2");
        b.dueLook("0\"x\"0/0", "12.5", "12x1/2");
        b.dueLook("0 #/#", "1E300", "1" + "0".repeat(300) + "    ");
    }

    private static void spaces(Bench b) {
        b.sentence("if n is 0, and there are whole places: as many spaces as numerator's places, stroke and denominator's places or "
            + "digits;");
        b.dueLook("0 0/0", "2", "2    ");
        b.dueLook("0 #/#", "2", "2    ");
        b.dueLook("0 000/00", "2", "2       ");
        b.dueLook("0 0/8", "2", "2    ");
        b.dueLook("0 0/100", "2", "2      ");
        b.dueLook("0 0/0", "0", "0    ");
        b.dueLook("# 0/0", "0", "    ");
        b.dueLook("\"a\"0\"b\"0/0\"c\"", "2", "a2b   c");
    }

    private static void numerator(Bench b) {
        b.sentence("otherwise n in the numerator's places, as whole digits, /,");
        b.dueLook("0 00/0", "1.5", "1 01/2");
        b.dueLook("0 ??/0", "1.5", "1  1/2");
        b.dueLook("0 ##/0", "1.5", "1 1/2");
        b.dueLook("0 0/00", "0.65", "0 13/20");
        b.dueLook("# 0#/?0", "2.25", "2 01/4 ");
        b.dueLook("0/0", "0", "0/1");
        b.dueLook("?/?", "0", " /1");
        b.dueLook("#/#", "0", "/1");
        b.dueLook("0/8", "0", "0/8");
        b.dueLook("0/8", "0.01", "0/8");
    }

    private static void denominator(Bench b) {
        b.sentence("and d (a given one as it is; of the first places that it lacks each 0 gives a 0 before it, each ? a space "
            + "behind it, each # nothing).");
        b.dueLook("# ?/000", "2.25", "2 1/004");
        b.dueLook("# ?/???", "2.25", "2 1/4  ");
        b.dueLook("# ?/###", "2.25", "2 1/4");
        b.dueLook("# ?/0??", "2.25", "2 1/04 ");
        b.dueLook("# ?/?0#", "2.25", "2 1/04 ");
        b.dueLook("# ?/#?0", "2.25", "2 1/4 ");
        b.dueLook("# ?/?00", "2.05", "2 1/20 ");
        b.dueLook("# ?/0##", "2.05", "2 1/020");
        b.dueLook("# ?/??0", "2.005", "2 1/200");
        b.dueLook("# ?/100", "0.5", " 50/100");
        b.dueLook("# ?/8", "0.5", " 4/8");
    }
}
