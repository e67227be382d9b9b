/** Promises 7 and 8: looks in GENERAL, PLAIN and NUMBER sections, with powers, and their signs. */
public final class NumberLookTest {
    public static void main(String[] args) {
        Bench b = new Bench();
        general(b);
        sections(b);
        places(b);
        thousands(b);
        scales(b);
        decimals(b);
        powers(b);
        b.end();
    }

    private static void general(Bench b) {
        String c = "General";
        b.dueLook(c, "1200", "1200");
        b.dueLook(c, "12E19", "120000000000000000000");
        b.dueLook(c, "1E20", "100000000000000000000");
        b.dueLook(c, "1E21", "1E21");
        b.dueLook(c, "123E19", "1.23E21");
        b.dueLook(c, "0.00000123", "0.00000123");
        b.dueLook(c, "0.000000123", "1.23E-7");
        b.dueLook(c, "0.000001", "0.000001");
        b.dueLook(c, "0.0000010", "0.000001");
        b.dueLook(c, "-0.5", "-0.5");
        b.dueLook(c, "-12345.678", "-12345.678");
        b.dueLook(c, "12345678901234567", "12345678901234567");
        b.dueLook("0;General", "-5", "5");
    }

    private static void sections(Bench b) {
        b.dueLook("\"a\"", "-5", "a");
        b.dueLook("0;\"below \"0", "-5", "below 5");
        b.dueLook("0;(0);\"z\"", "-0.1", "(0)");
        b.dueLook("0;(0);\"z\"", "0.1", "0");
        b.dueLook("0;(0);\"z\"", "0", "z");
        b.dueLook("0;@", "-5", "-5");
        b.dueLook("@", "-5.5", "-5.5");
        b.dueLook("0;", "-5", "");
        b.dueLook("0", "-0.4", "0");
        b.dueLook("0", "-0.5", "-1");
        b.dueLook("#", "-0.4", "");
        b.dueLook("\"x\"0", "-5", "-x5");
        b.dueLook("[red]_)\\;*x$0", "-5", "- ;$5");
    }

    private static void places(Bench b) {
        b.dueLook("0000", "12", "0012");
        b.dueLook("?0?", "0", " 0 ");
        b.dueLook("#0#", "0", "0");
        b.dueLook("0#", "0", "0");
        b.dueLook("0-0-0", "12345", "123-4-5");
        b.dueLook("\"a\"0", "123", "a123");
        b.dueLook(".00", "12.345", "12.35");
        b.dueLook("\"a\".0", "0.5", "a.5");
        b.dueLook("\"a\".0", "-12", "-a12.0");
        b.dueLook("#.", "0", ".");
        b.dueLook("0", "1E300", "1" + "0".repeat(300));
        b.dueLook("0.0", "1E-350", "0.0");
    }

    private static void thousands(Bench b) {
        b.dueLook("#,##0", "0", "0");
        b.dueLook("#,##0", "123", "123");
        b.dueLook("#,##0", "1234567", "1,234,567");
        b.dueLook("0,000", "5", "0,005");
        b.dueLook("?,???", "5", "   5");
        b.dueLook("0,0", "1234567", "1,234,567");
        b.dueLook("0,0\"x\"000", "12345", "12,x345");
        b.dueLook("0,0\"x\"00", "12345", "12,3x45");
        b.dueLook("#,#", "-1234.5", "-1,235");
    }

    private static void scales(Bench b) {
        b.dueLook("0%", "0.125", "13%");
        b.dueLook("%0%", "0.125", "%1250%");
        b.dueLook("0,", "1500", "2");
        b.dueLook("0,", "1499", "1");
        b.dueLook("0,,.00", "12345678", "12.35");
        b.dueLook("0,%", "12345", "1235%");
        b.dueLook("#,##0,", "1234567890", "1,234,568");
    }

    private static void decimals(Bench b) {
        b.dueLook("0.0##", "1.5", "1.5");
        b.dueLook("0.0??", "1.5", "1.5  ");
        b.dueLook("0.###", "1.05", "1.05");
        b.dueLook("0.#0", "1", "1.0");
        b.dueLook("0.#", "1", "1.");
        b.dueLook("0.0\"x\"0", "1.25", "1.2x5");
        b.dueLook("0.00", "1.005", "1.01");
        b.dueLook("0.00", "-1.005", "-1.01");
        b.dueLook("0.00", "1.0049999999999999", "1.00");
        b.dueLook("0.0", "9.95", "10.0");
        b.dueLook("0.0000000000000000000", "1.5E-17", "0.0000000000000000150");
        b.dueLook("0", "0.5", "1");
        b.dueLook(".0", "0.05", ".1");
        b.dueLook("0.0", "0.049", "0.0");
    }

    private static void powers(Bench b) {
        b.dueLook("0E+0", "0", "0E+0");
        b.dueLook("0E-0", "5", "5E0");
        b.dueLook("0E+#", "5", "5E+");
        b.dueLook("0e-??", "5E-3", "5E- 3");
        b.dueLook("0.0E+00", "9.96", "1.0E+01");
        b.dueLook("##0.0E+0", "0.00012", "120.0E-6");
        b.dueLook("##0E+0", "-999.6", "-1E+3");
        b.dueLook("000E+0", "1", "001E+0");
        b.dueLook(".00E+0", "123", "1.23E+2");
        b.dueLook("0E+0", "1E-350", "1E-350");
        b.dueLook("\"<\"0.0#E-0\">\"", "1000", "<1.0E3>");
        b.dueLook("0E+000", "2E5", "2E+005");
        b.dueLook("00E+0", "0.5", "50E-2");
    }
}
