/** Promise 4: which codes can stand, and where the others are wrong. */
public final class CodeTest {
    public static void main(String[] args) {
        Bench b = new Bench();
        stays(b);
        sections(b);
        commonItems(b);
        numbers(b);
        powers(b);
        fractions(b);
        dates(b);
        fourth(b);
        kinds(b);
        b.end();
    }

    private static void stays(Bench b) {
        b.dueLook("0.0", "2.34", "2.3");
        b.dueCode("0.0x", 3);
        b.due("a wrong code changes nothing", b.look(), "2.3");
        b.due("nor its kinds", b.dress.about(0), 1);
        b.due("what is typed stays typed", b.dress.type(0), 4);
        b.code("0.00");
        b.due("a right code stays typed", b.dress.type('0'), 5);
        b.due("typing more does not change the code", b.look(), "2.34");
        b.due("until it is taken", b.dress.code(), NumberDress.NONE);
        b.due("taken", b.look(), "2.340");
    }

    private static void sections(Bench b) {
        b.dueCode("", NumberDress.NONE);
        b.due("one", b.dress.about(0), 1);
        b.dueCode(";", NumberDress.NONE);
        b.due("two", b.dress.about(0), 2);
        b.dueCode(";;;", NumberDress.NONE);
        b.due("four", b.dress.about(0), 4);
        b.dueCode(";;;;", 3);
        b.dueCode("0;0;0;@;", 7);
        b.dueCode("@;", 1);
        b.dueCode("0;@\"a\";0", 6);
        b.dueCode("\";\"\\;_;*;", NumberDress.NONE);
        b.due("no ; is between", b.dress.about(0), 1);
        b.dueCode("\\\\;\"a\";\\\"", NumberDress.NONE);
        b.due("three", b.dress.about(0), 3);
        b.dueCode("General;GENERAL;gEnErAl", NumberDress.NONE);
        b.dueCode("General ", 0);
        b.dueCode(" General", 1);
        b.dueCode("Genera", 0);
        b.dueCode("0;;General0", 3);
        b.dueCode("0".repeat(64), NumberDress.NONE);
        b.dueCode("0".repeat(63) + "x", 63);
    }

    private static void commonItems(Bench b) {
        b.dueCode(" $-+():!^&'~{}<>=", NumberDress.NONE);
        b.dueCode("\"\"", NumberDress.NONE);
        b.dueCode("0\"", 1);
        b.dueCode("0\\", 1);
        b.dueCode("0_", 1);
        b.dueCode("0*", 1);
        b.dueCode("0;\"a;b", 2);
        for (String colour : "black blue cyan green magenta red white yellow RED Blue".split(" ")) {
            b.dueCode("[" + colour + "]", NumberDress.NONE);
            b.dueCode("[" + colour, 0);
            b.dueCode("[" + colour + " ]", 0);
        }
        b.dueCode("[]", 0);
        b.dueCode("red", 0);
        for (String sign : "|`a1bcefgijklnopqrtuvwxz]".split("")) {
            b.dueCode("-" + sign, 1);
        }
    }

    private static void numbers(Bench b) {
        b.dueCode("0#?.?#0", NumberDress.NONE);
        b.dueCode(".", NumberDress.NONE);
        b.dueCode(".0.", 2);
        b.dueCode("0. .0", 3);
        b.dueCode("0,0,0", NumberDress.NONE);
        b.dueCode("0,,,.0%%", NumberDress.NONE);
        b.dueCode(",0", 0);
        b.dueCode("0,,0", 3);
        b.dueCode("0, ,", 3);
        b.dueCode("0,\"\"0", 4);
        b.dueCode("0\"\",0", 3);
        b.dueCode("0*x,", 3);
        b.dueCode("0%,", 2);
        b.dueCode("0.,", 2);
        b.dueCode("0.0,", 3);
        b.dueCode("0,0,.0", NumberDress.NONE);
        b.dueCode("\\0,0", 2);
        b.dueCode("01", 1);
        b.dueCode("0@", 1);
        b.dueCode("0y", 1);
        b.dueCode("0[h]", 1);
        b.dueCode("0AM/PM", 1);
    }

    private static void powers(Bench b) {
        b.dueCode("0E+0", NumberDress.NONE);
        b.dueCode(".0e-?#0 \"x\"", NumberDress.NONE);
        b.dueCode("0.E+0", 2);
        b.dueCode("0 E+0", 2);
        b.dueCode("E+0", 0);
        b.dueCode("0E 0", 1);
        b.dueCode("0E+ 0", 1);
        b.dueCode("0,0E+0", 3);
        b.dueCode("0,E+0", 2);
        b.dueCode("%0E+0", 2);
        b.dueCode("0E+0%", 4);
        b.dueCode("0E+0.0", 4);
        b.dueCode("0E+0,", 4);
        b.dueCode("0E+0 0", 5);
        b.dueCode("0E+0/0", 4);
        b.dueCode("0E+0E+0", 4);
        b.dueCode("0E+000?", 6);
    }

    private static void fractions(Bench b) {
        b.dueCode("0/0", NumberDress.NONE);
        b.dueCode("# ??/??? \"x\"[red]", NumberDress.NONE);
        b.dueCode("0/100", NumberDress.NONE);
        b.dueCode("0/01", 3);
        b.dueCode("0/8#", 3);
        b.dueCode("0/1234", 5);
        b.dueCode("0/0000", 5);
        b.dueCode("0 /0", 2);
        b.dueCode("0/ 0", 1);
        b.dueCode(".0/0", 2);
        b.dueCode("0./0", 2);
        b.dueCode("0,0/0", 3);
        b.dueCode("%0/0", 2);
        b.dueCode("0/0%", 3);
        b.dueCode("0/0.", 3);
        b.dueCode("0/0,", 3);
        b.dueCode("0/0/0", 3);
        b.dueCode("0/8E+0", 3);
    }

    private static void dates(Bench b) {
        b.dueCode("yy yyyy m mm mmm mmmm mmmmm d dd ddd dddd h hh s ss", NumberDress.NONE);
        b.dueCode("yYMmDdHhSs.,/%", NumberDress.NONE);
        b.dueCode("y", 0);
        b.dueCode("d yyy", 2);
        b.dueCode("yyyyy", 0);
        b.dueCode("mmmmmm", 0);
        b.dueCode("ddddd", 0);
        b.dueCode("hhh", 0);
        b.dueCode("sss", 0);
        b.dueCode("[h][hh][m][MM][s][SS]", NumberDress.NONE);
        b.dueCode("[hm]", 0);
        b.dueCode("[h", 0);
        b.dueCode("[y]", 0);
        b.dueCode("d[hhh]", 1);
        b.dueCode("am/pm A/P a/p AM/pm", NumberDress.NONE);
        b.dueCode("d a", 2);
        b.dueCode("d AM/P", 2);
        b.dueCode("d AM", 2);
        b.dueCode("s.0 ss.00 [s].000", NumberDress.NONE);
        b.dueCode("s.", NumberDress.NONE);
        b.dueCode("s .0", 3);
        b.dueCode("s.0000", 1);
        b.dueCode("d.0", 2);
        b.dueCode("s*x.0", 4);
        b.dueCode("s..0", 3);
        b.dueCode("s.00.0", 5);
        b.dueCode("[h].0", 4);
        b.dueCode("d@", 1);
        b.dueCode("d#", 1);
        b.dueCode("@d", 1);
        b.dueCode("@0", 1);
        b.dueCode("@[h]", 1);
        b.dueCode("@.,/%@", NumberDress.NONE);
    }

    private static void fourth(Bench b) {
        b.dueCode(";;;\"a\".,/%", NumberDress.NONE);
        b.dueCode(";;;@", NumberDress.NONE);
        b.dueCode(";;;General", 3);
        b.dueCode(";;; 0", 4);
        b.dueCode(";;;.#", 4);
        b.dueCode(";;;.d", 4);
        b.dueCode(";;;[h]", 3);
        b.dueCode(";;;[hhh]", 3);
        b.dueCode(";;;-am/pm", 4);
        b.dueCode(";;;-a/p", 4);
        b.dueCode(";;;x0", 3);
        b.dueCode(";;;@0", 4);
        b.dueCode(";;;\"0\"", NumberDress.NONE);
    }

    private static void kinds(Bench b) {
        b.dueCode(",x", 1);
        b.dueCode(",x0", 0);
        b.dueCode(",xd0", 1);
        b.dueCode(",\"0", 0);
        b.dueCode(",\"a;0", 1);
        b.dueCode(",[red0", 1);
        b.dueCode(",[red]0", 0);
        b.dueCode(",/.%", NumberDress.NONE);
    }
}
