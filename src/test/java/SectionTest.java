/** Promises 7 and 8: which section a value takes, and where a look begins with a sign. */
public final class SectionTest {
    public static void main(String[] args) {
        Bench b = new Bench();
        forText(b);
        textItself(b);
        one(b);
        two(b);
        three(b);
        none(b);
        noSignInSecond(b);
        signInOthers(b);
        b.end();
    }

    private static void forText(Bench b) {
        b.sentence("WHICH SECTION. For a text: the TEXT section, if there is one, or the fourth;");
        b.dueTextLook("@\"!\"", "x", "x!");
        b.dueTextLook("0;@\"!\"", "x", "x!");
        b.dueTextLook("0;0;@\"!\"", "x", "x!");
        b.dueTextLook("0;0;0;@\"!\"", "x", "x!");
        b.dueTextLook("0;0;0;\"none\"", "x", "none");
        b.dueTextLook("0;0;0;", "x", "");
        b.dueTextLook("0;0;0;.,/%", "x", ".,/%");
        b.dueTextLook("0;0;@", "", "");
    }

    private static void textItself(Bench b) {
        b.sentence("otherwise the text itself is the look.");
        b.dueTextLook("0;0;0", "x", "x");
        b.dueTextLook("\"a\"", "x", "x");
        b.dueTextLook("General", "0", "0");
        b.dueTextLook("0.00", "5", "5");
        b.dueTextLook("d", "", "");
        b.dueTextLook("", "a;b", "a;b");
    }

    private static void one(Bench b) {
        b.sentence("For a number, of those that are no TEXT and not the fourth: one: all;");
        for (String code : new String[] {"0\"a\"", "0\"a\";@"}) {
            b.dueLook(code, "5", "5a");
            b.dueLook(code, "-5", "-5a");
            b.dueLook(code, "0", "0a");
        }
        b.dueLook("\"a\"", "-5", "a");
    }

    private static void two(Bench b) {
        b.sentence("two: the second for those below 0;");
        for (String code : new String[] {"0\"a\";0\"b\"", "0\"a\";0\"b\";@"}) {
            b.dueLook(code, "5", "5a");
            b.dueLook(code, "1E-350", "0a");
            b.dueLook(code, "-5", "5b");
            b.dueLook(code, "-1E-350", "0b");
            b.dueLook(code, "0", "0a");
        }
        b.dueLook("0;", "-5", "");
        b.dueLook(";", "5", "");
    }

    private static void three(Bench b) {
        b.sentence("three: the second for those below 0, the third for 0;");
        for (String code : new String[] {"0\"a\";0\"b\";0\"c\"", "0\"a\";0\"b\";0\"c\";@", "0\"a\";0\"b\";0\"c\";\"d\""}) {
            b.dueLook(code, "5", "5a");
            b.dueLook(code, "1E-350", "0a");
            b.dueLook(code, "-5", "5b");
            b.dueLook(code, "-0.1", "0b");
            b.dueLook(code, "0", "0c");
            b.dueLook(code, "-0", "0c");
        }
        b.dueLook("0;0;", "0", "");
    }

    private static void none(Bench b) {
        b.sentence("none: GENERAL.");
        b.dueLook("@", "-5.50", "-5.5");
        b.dueLook("@", "0", "0");
        b.dueLook("\"a\"@", "1E300", "1E300");
    }

    private static void noSignInSecond(Bench b) {
        b.sentence("Where there are two or more, a number below 0 in the second has no sign any more (a DATE there is that of its "
            + "size);");
        b.dueLook("0;0.0", "-5", "5.0");
        b.dueLook("0;0;0", "-5", "5");
        b.dueLook("0;General", "-5", "5");
        b.dueLook("0;General;@", "-1E300", "1E300");
        b.dueLook("0;0E+0", "-50", "5E+1");
        b.dueLook("0;0/0", "-0.5", "1/2");
        b.dueLook("0;\"-\"0", "-5", "-5");
        b.dueLook("d;d", "-2", "2");
        b.dueLook("0;yyyy-mm-dd hh", "-60.5", "1900-02-29 12");
        b.dueLook("d;\"-\"d", "-2958466", "#");
        b.dueLook("d;d", "-2958465", "31");
    }

    private static void signInOthers(Bench b) {
        b.sentence("in all others its look begins with - if it is below 0 (but not when all its digits that are shown are 0, or "
            + "none is shown at all, nor in a date).");
        b.dueLook("0", "-5", "-5");
        b.dueLook("\"x\"0", "-5", "-x5");
        b.dueLook("[red]_)\\;*x$0", "-5", "- ;$5");
        b.dueLook("0E+0", "-50", "-5E+1");
        b.dueLook("General", "-1E300", "-1E300");
        b.dueLook("0", "-0.5", "-1");
        b.dueLook("0", "-0.4", "0");
        b.dueLook("0.00", "-0.004", "0.00");
        b.dueLook("0.00", "-0.005", "-0.01");
        b.dueLook("?.?", "-0.04", " . ");
        b.dueLook("0,", "-499", "0");
        b.dueLook("0%", "-0.004", "0%");
        b.dueLook("#", "-0.4", "");
        b.dueLook("\"7\"#", "-0.4", "7");
        b.dueLook("\"7\"0", "-0.4", "70");
        b.dueLook("\"7\"", "-5", "7");
        b.dueLook("", "-5", "");
        b.dueLook("0 0/8", "-0.01", "0    ");
        b.dueLook("# ?/?", "-0.05", "    ");
        b.dueLook("# ?/?", "-0.5", "- 1/2");
        b.dueLook("# ?/?", "-0.999", "-1    ");
        b.dueLook("d", "-1", "#");
        b.dueLook("\"x\"d", "-1E-300", "#");
    }
}
