/** Promise 4 and the terms of codes: sections, the items of all sections, and where a code is wrong. */
public final class CodeTest {
    private static final String OWN_LITERALS = " $-+():!^&'~{}<>=";

    public static void main(String[] args) {
        Bench b = new Bench();
        codeIsTaken(b);
        sections(b);
        general(b);
        quotes(b);
        signsWithOneBehind(b);
        colours(b);
        ownLiterals(b);
        letters(b);
        textIsLast(b);
        fourth(b);
        firstWrong(b);
        beginsNoItem(b);
        b.end();
    }

    private static void codeIsTaken(Bench b) {
        b.sentence("What is typed (which stays typed) is the code from now on; answers NONE, or the place where it is wrong: "
            + "then the code stays.");
        b.dueLook("0.0", "2.34", "2.3");
        b.dueCode("0;0;0.0x", 7);
        b.due("a wrong code changes nothing", b.look(), "2.3");
        b.due("nor how many sections", b.dress.about(0), 1);
        b.due("nor their kinds", b.dress.about(2), NumberDress.NONE);
        b.due("what is typed stays typed", b.dress.type(0), 8);
        b.code("0.00");
        b.due("a right code stays typed", b.dress.type('0'), 5);
        b.due("typing more does not change the code", b.look(), "2.34");
        b.due("until it is taken", b.dress.code(), NumberDress.NONE);
        b.due("taken", b.look(), "2.340");
        b.due("taken again", b.dress.code(), NumberDress.NONE);
        b.due("is the same", b.look(), "2.340");
        b.dress.erase();
        b.due("the code does not go with what is typed", b.look(), "2.340");
        b.due("a wrong one", b.code("x"), 0);
        b.due("another wrong one", b.code("0x"), 1);
        b.due("two wrong ones change nothing", b.look(), "2.340");
        b.due("the text of the code is no value", b.dress.about(5), 1);
    }

    private static void sections(Bench b) {
        b.sentence("A CODE is a text of at most 64 characters of 32 .. 126: one to four SECTIONS, ; between each two (but a ; "
            + "in quotes, or behind \\ _ *, is none of these).");
        String[] codes = {"", ";", ";;", ";;;", "\";\"\\;_;*;", "\\\\;\"a\";\\\"", "__;**;\\\"", "\"a;b\";\";\""};
        int[] counts = {1, 2, 3, 4, 1, 3, 3, 2};
        for (int i = 0; i < codes.length; i++) {
            b.dueRight(codes[i]);
            b.due(codes[i] + " sections", b.dress.about(0), counts[i]);
        }
        b.dueCode(";;;;", 3);
        b.dueCode("0;0;0;\"a\";\"b\"", 9);
        b.dueCode(";;;;;", 3);
        b.dueRight("0".repeat(64), ";;;" + " ".repeat(61));
        b.dueCode("0".repeat(63) + "x", 63);
        b.dueCode("0".repeat(63) + "\\", 63);
    }

    private static void general(Bench b) {
        b.sentence("A section is GENERAL (that word alone, small or great letters), or a row of ITEMS, perhaps none.");
        b.dueRight("General;GENERAL;gEnErAl");
        for (int i = 1; i <= 3; i++) {
            b.due("kind " + i, b.dress.about(i), 0);
        }
        b.dueCode("General ", 0);
        b.dueCode(" General", 1);
        b.dueCode("Genera", 0);
        for (int i = 0; i < 7; i++) {
            b.dueCode("general".substring(0, i) + "x" + "general".substring(i + 1), 0);
        }
        b.dueCode("GeneralGeneral", 0);
        b.dueCode("[red]General", 5);
        b.dueCode("General\"\"", 0);
        b.dueCode("0;;General0", 3);
        b.dueRight("\"General\"", "");
        b.due("quotes are PLAIN", b.dress.about(1), 1);
        b.dueLook("", "5", "");
    }

    private static void quotes(Bench b) {
        b.sentence("Items in all sections: QUOTES, \" and all to the next \" (each character between is a LITERAL)");
        b.dueLook("\"a\"", "5", "a");
        b.dueLook("\"\"", "5", "");
        b.dueLook("\"a\"\"b\"", "5", "ab");
        b.dueLook("\"0#?.,%E+0/8ymdhs@\\_*[red];General\"", "5", "0#?.,%E+0/8ymdhs@\\_*[red];General");
        b.dueLook("0\"0\"", "5", "50");
        b.dueLook("\"" + "x".repeat(62) + "\"", "5", "x".repeat(62));
        b.dueCode("\"", 0);
        b.dueCode("\"\"\"", 2);
        b.dueCode("0\"a", 1);
    }

    private static void signsWithOneBehind(Bench b) {
        b.sentence("\\ and a character (a literal, that character); _ and a character (a literal, a space); * and a character "
            + "(nothing)");
        for (char sign = 32; sign <= 126; sign++) {
            b.dueLook("<\\" + sign + ">", "5", "<" + sign + ">");
            b.dueLook("<_" + sign + ">", "5", "< >");
            b.dueLook("<*" + sign + ">", "5", "<>");
        }
        b.dueCode("0\\", 1);
        b.dueCode("0_", 1);
        b.dueCode("0*", 1);
        b.dueCode("\\\\\\", 2);
    }

    private static void colours(Bench b) {
        b.sentence("[ and a colour and ] (nothing; black blue cyan green magenta red white yellow, small or great letters)");
        for (String colour : "black blue cyan green magenta red white yellow RED Blue mAGENTA".split(" ")) {
            b.dueLook("<[" + colour + "]>", "5", "<>");
            b.dueCode("[" + colour, 0);
            b.dueCode("[" + colour + " ]", 0);
            b.dueCode("[ " + colour + "]", 0);
            b.dueCode("[" + colour.substring(1) + "]", 0);
            b.dueCode("[" + colour + colour + "]", 0);
        }
        b.dueCode("red", 0);
        b.dueCode("[]", 0);
        b.dueCode("-[orange]", 1);
        b.dueCode("[red]]", 5);
        b.dueRight("[red][blue]", "[red];[blue]0");
    }

    private static void ownLiterals(Bench b) {
        b.sentence("and one character that is a literal itself: a space, or one of $ - + ( ) : ! ^ & ' ~ { } < > =.");
        b.dueLook(OWN_LITERALS, "5", OWN_LITERALS);
        b.dueLook("0" + OWN_LITERALS, "5", "5" + OWN_LITERALS);
        b.dueLook("d" + OWN_LITERALS, "5", "5" + OWN_LITERALS);
        b.dueTextLook("@" + OWN_LITERALS, "5", "5" + OWN_LITERALS);
        for (char sign = 32; sign <= 126; sign++) {
            b.dueCode("" + sign, (OWN_LITERALS + ".,/%0#?@mdhsMDHS;").indexOf(sign) >= 0 ? NumberDress.NONE : 0);
            b.dueCode("0" + sign, (OWN_LITERALS + ".,%0#?;").indexOf(sign) >= 0 ? NumberDress.NONE : 1);
            b.dueCode("d" + sign, (OWN_LITERALS + ".,/%mdhsMDHS;").indexOf(sign) >= 0 ? NumberDress.NONE : 1);
            b.dueCode("@" + sign, (OWN_LITERALS + ".,/%@").indexOf(sign) >= 0 ? NumberDress.NONE : 1);
        }
    }

    private static void letters(Bench b) {
        b.sentence("Letters of other items are no matter small or great.");
        b.dueLook("yYyY-Mm-dD hH:mM:sS aM/Pm", "36586.75", "2000-03-01 06:00:00 PM");
        b.dueLook("[Hh] [M] [S] a/P", "0.75", "18 1080 64800 P");
        b.dueLook("mMm DdDd", "1", "Jan Sunday");
        b.dueLook("0e+0", "50", "5E+1");
        b.dueLook("0e-0", "0.5", "5E-1");
    }

    private static void textIsLast(Bench b) {
        b.sentence("A TEXT section is the last one (the ; behind it can not stand)");
        b.dueRight("@", "0;@", "0;0;@", "0;0;0;@", "@@");
        b.dueCode("@;", 1);
        b.dueCode("@;@", 1);
        b.dueCode("0;@\"a\";0", 6);
        b.dueCode("0;0;@;", 5);
        b.dueCode("0;0;0;@;", 7);
        b.dueCode("@x;", 1);
    }

    private static void fourth(Bench b) {
        b.sentence("the fourth is TEXT or PLAIN (the first item that makes it another one can not stand; the word GENERAL at "
            + "its first character).");
        b.dueRight(";;;", ";;;\"a\".,/%", ";;;@", ";;;.@", ";;;\"0\"\\d_h*s[red]");
        b.dueCode(";;;General", 3);
        b.dueCode("0;0;0;gENERAL", 6);
        b.dueCode(";;;General;", 3);
        b.dueCode(";;;0", 3);
        b.dueCode(";;; #", 4);
        b.dueCode(";;;\"0\"?", 6);
        b.dueCode(";;;.#", 4);
        b.dueCode(";;;.,/%d", 7);
        for (String item : "yy m d h s [h] [mm] [s] [hhh] am/pm A/P y ddddd".split(" ")) {
            b.dueCode(";;;-" + item, 4);
            b.dueCode(";;;" + item + "@", 3);
        }
        b.dueCode(";;;@0", 4);
        b.dueCode(";;;@d", 4);
        b.dueCode(";;;@[h]", 4);
    }

    private static void firstWrong(Bench b) {
        b.sentence("The code is WRONG at the first item (or ;) that can not stand where it stands: at the place of its first "
            + "character (how many are before it)");
        b.dueCode("x", 0);
        b.dueCode("xx", 0);
        b.dueCode("0xx", 1);
        b.dueCode("0;x;x", 2);
        b.dueCode("\"abc\"x", 5);
        b.dueCode("d yyy yyy", 2);
        b.dueCode(";;;x0", 3);
        b.dueCode("@;x", 1);
        b.dueCode("@x;", 1);
        b.dueCode("0.0E+0 \"ab\" x", 12);
        b.dueCode(";;;\"a\";x", 6);
    }

    private static void beginsNoItem(Bench b) {
        b.sentence("a character that begins no item is wrong itself, and so is one that begins an item which the rest of the "
            + "code does not go on with.");
        for (String sign : "|`a1bcefgijklnopqrtuvwxz]".split("")) {
            b.dueCode("-" + sign, 1);
            b.dueCode("0-" + sign, 2);
            b.dueCode("d-" + sign, 2);
            b.dueCode("@-" + sign, 2);
        }
        for (String begun : new String[] {"\"a", "\\", "_", "*", "[", "[re", "[red", "[hm]", "[h", "[hh"}) {
            b.dueCode("-" + begun, 1);
        }
        for (String begun : new String[] {"A", "AM", "AM/", "AM/P", "A/", "AM/AM", "[mm", "[s"}) {
            b.dueCode("d-" + begun, 2);
        }
        for (String begun : new String[] {"E", "E+", "E-", "E 0", "E+x", "E+1", "/", "/x", "/ 8"}) {
            b.dueCode("0" + begun, 1);
        }
    }
}
