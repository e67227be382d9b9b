/** The terms of a NUMBER's items: places, point, commas, percents, powers and fractions. */
public final class NumberItemsTest {
    private static final String OWN_LITERALS = " $-+():!^&'~{}<>=";

    public static void main(String[] args) {
        Bench b = new Bench();
        placesAndPoint(b);
        thousands(b);
        thousandths(b);
        percents(b);
        powers(b);
        fractions(b);
        numerators(b);
        firstThree(b);
        behindPowerOrFraction(b);
        notBefore(b);
        b.end();
    }

    private static void placesAndPoint(Bench b) {
        b.sentence("Further items of a NUMBER: a PLACE 0 # or ?: WHOLE before the point, DECIMAL behind it; . the POINT, one at most");
        b.dueRight("0#?.?#0", ".0", "0.", "0.0 0");
        b.dueCode(".0.", 2);
        b.dueCode("0..0", 2);
        b.dueCode("0. .0", 3);
        b.dueRight("0\".\".0\\.", "0.0;0.0");
        b.dueLook("00.00", "1.5", "01.50");
        b.dueLook("0-0.0-0", "12.34", "1-2.3-4");
        b.dueCode("01", 1);
    }

    private static void thousands(Bench b) {
        b.sentence("a comma directly between two whole places (no other item between): THOUSANDS");
        b.dueLook("0,0", "1234", "1,234");
        b.dueLook("0,0,0", "1234", "1,234");
        b.dueLook("#,?", "1234", "1,234");
        b.dueCode(",0", 0);
        b.dueCode("\"\",0", 2);
        b.dueCode("0, 0", 3);
        b.dueCode("0 ,0", 2);
        b.dueCode("0,\"\"0", 4);
        b.dueCode("0\"\",0", 3);
        b.dueCode("0,[red]0", 7);
        b.dueCode("0[red],0", 6);
        b.dueCode("0*x,0", 3);
        b.dueCode("0,*x0", 4);
        b.dueCode("\\0,0", 2);
        b.dueCode("0.0,0", 3);
        b.dueCode("0%,0", 2);
        b.dueCode("0.,0", 2);
        b.dueCode("0;,0", 2);
    }

    private static void thousandths(Bench b) {
        b.sentence("a comma directly behind a whole place, or such a comma: a THOUSANDTH, behind which no whole place comes any "
            + "more");
        b.dueLook("0,", "12000", "12");
        b.dueLook("0,,", "12000000", "12");
        b.dueLook("0,.0", "12340", "12.3");
        b.dueLook("0, ", "12000", "12 ");
        b.dueLook("0,0,", "12345678", "12,346");
        b.dueRight("0,,,.0%%", "0,0,.0", "0,\"0\".0", "0" + ",".repeat(63));
        b.dueCode("0,,0", 3);
        b.dueCode("0,\\x0", 4);
        b.dueCode("0, ,", 3);
        b.dueCode("0,%,", 3);
        b.dueCode("0,.,", 3);
        b.dueCode("0.0,", 3);
        b.dueCode("0%,", 2);
        b.dueCode("0.,", 2);
        b.dueCode("0,[red],", 7);
    }

    private static void percents(Bench b) {
        b.sentence("% (a literal, too): a HUNDRED times");
        b.dueLook("0%", "0.5", "50%");
        b.dueLook("%0", "0.5", "%50");
        b.dueLook("0%%", "0.5", "5000%%");
        b.dueLook("0.0%", "0.0005", "0.1%");
        b.dueLook("0%0", "0.5", "5%0");
        b.dueLook("0\"%\"\\%", "5", "5%%");
        b.dueLook("0" + "%".repeat(63), "1E300", "1" + "0".repeat(426) + "%".repeat(63));
    }

    private static void powers(Bench b) {
        b.sentence("E+ or E-, directly behind a whole or decimal place, and one to three places directly behind it: the POWER");
        for (String code : new String[] {"0E+0", "0e-#", ".0E+??", "0.0E-000", "#E+0#?", "0E+0 \"x\""}) {
            b.dueRight(code);
            b.due(code + " kind", b.dress.about(1), 3);
        }
        b.dueCode("E+0", 0);
        b.dueCode("0.E+0", 2);
        b.dueCode("0 E+0", 2);
        b.dueCode("0[red]E+0", 6);
        b.dueCode("0*xE+0", 3);
        b.dueCode("0\"\"E+0", 3);
        b.dueCode("0E", 1);
        b.dueCode("0E+", 1);
        b.dueCode("0E0", 1);
        b.dueCode("0E 0", 1);
        b.dueCode("0E+ 0", 1);
        b.dueCode("0E+\"\"0", 1);
        b.dueCode("0E+-0", 1);
        b.dueCode("0E+1", 1);
        b.dueCode("0E+;0", 1);
    }

    private static void fractions(Bench b) {
        b.sentence("/ directly behind a whole place, and directly behind it one to three places, or a number of one to three "
            + "digits, the first not 0: a FRACTION");
        for (String code : new String[] {"0/0", "#/?#", "?/000", "0/1", "0/10", "0/100", "0/999", "# ??/??? \"x\"[red]"}) {
            b.dueRight(code);
            b.due(code + " kind", b.dress.about(1), 4);
        }
        b.dueCode("/0", 0);
        b.dueCode("0/", 1);
        b.dueCode("0/x", 1);
        b.dueCode("0 /0", 2);
        b.dueCode("0\"\"/0", 3);
        b.dueCode("0[red]/0", 6);
        b.dueCode("0/ 0", 1);
        b.dueCode("0/\"\"0", 1);
        b.dueCode("0/;0", 1);
        b.dueCode("0/01", 3);
        b.dueCode("0/#1", 3);
        b.dueCode("0/8#", 3);
        b.dueCode("0/10?", 4);
    }

    private static void numerators(Bench b) {
        b.sentence("the whole places directly before it, one behind the other, are the NUMERATOR's then, and not whole.");
        b.dueLook("00/0", "1.5", "03/2");
        b.dueLook("0 0/0", "1.5", "1 1/2");
        b.dueLook("0 000/0", "1.5", "1 001/2");
        b.dueLook("0\"\"0/0", "1.5", "11/2");
        b.dueLook("0[red]0/0", "1.5", "11/2");
        b.dueLook("0*x0/0", "1.5", "11/2");
        b.dueLook("0-0 0/0", "12.5", "1-2 1/2");
        b.dueLook("0".repeat(62) + "/0", "1.5", "0".repeat(61) + "3/2");
    }

    private static void firstThree(Bench b) {
        b.sentence("(Of places or digits that come so the first three are taken.)");
        b.dueCode("0E+0000", 6);
        b.dueCode("0E-###?", 6);
        b.dueCode("0/0000", 5);
        b.dueCode("0/???#", 5);
        b.dueCode("0/1234", 5);
        b.dueCode("0/1000", 5);
        b.dueRight("0E+000", "0/000", "0/123");
    }

    private static void behindPowerOrFraction(Bench b) {
        b.sentence("Behind a power or fraction only those items come that are in all sections.");
        b.dueRight("0E+0\"a\"\\b_c*d[red]" + OWN_LITERALS, "0/0\"a\"\\b_c*d[red]" + OWN_LITERALS, "0/8\"a\"\\b_c*d[red]-");
        for (char sign = 32; sign <= 126; sign++) {
            boolean stands = (OWN_LITERALS + ";").indexOf(sign) >= 0;
            b.dueCode("0E+000" + sign, stands ? NumberDress.NONE : 6);
            b.dueCode("0/000" + sign, stands ? NumberDress.NONE : 5);
            b.dueCode("0/888" + sign, stands ? NumberDress.NONE : 5);
            b.dueCode("0E+0 " + sign, stands ? NumberDress.NONE : 5);
            b.dueCode("0/8 " + sign, stands ? NumberDress.NONE : 4);
        }
        b.dueCode("0E+0E+0", 4);
        b.dueCode("0E+0/0", 4);
        b.dueCode("0/0/0", 3);
        b.dueCode("0/8E+0", 3);
        b.dueCode("0/0 0/0", 4);
    }

    private static void notBefore(Bench b) {
        b.sentence("With a fraction there is no point, comma or percent before it, with a power no comma or percent.");
        b.dueCode(".0/0", 2);
        b.dueCode("0./0", 2);
        b.dueCode("0.0/0", 3);
        b.dueCode("0,0/0", 3);
        b.dueCode("0,0 0/0", 5);
        b.dueCode("0,/0", 2);
        b.dueCode("%0/0", 2);
        b.dueCode("0%0/8", 3);
        b.dueCode("0,0E+0", 3);
        b.dueCode("0,0.0E+0", 5);
        b.dueCode("0,E+0", 2);
        b.dueCode("0,.0E+0", 4);
        b.dueCode("%0E+0", 2);
        b.dueCode("0%E+0", 2);
        b.dueCode("0%.0E-0", 4);
        b.dueRight("0.0E+0", "\"%,.\"0/0", "\\%\\,0E+0", "0,0;0/0", "0%;0E+0");
    }
}
