/** Promises 5 to 8: what a number and a text are, and how a look is asked for. */
public final class ValueTest {
    public static void main(String[] args) {
        Bench b = new Bench();
        numbers(b);
        numbersOutOfRange(b);
        numberTerms(b);
        zeroHasNoSign(b);
        texts(b);
        longestText(b);
        textInSection(b);
        lengthOfLook(b);
        signsOfLook(b);
        b.end();
    }

    private static void numbers(Bench b) {
        b.sentence("The value is a number: below 0 or not, v is 10^9 high and low, and scale.");
        b.dress.number(false, 99999999, 999999999, 300);
        b.due("greatest", b.look(), "9.9999999999999999E316");
        b.dress.number(true, 99999999, 999999999, 300);
        b.due("greatest below 0", b.look(), "-9.9999999999999999E316");
        b.dress.number(true, 0, 1, -350);
        b.due("least", b.look(), "-1E-350");
        b.dress.number(false, 99999999, 999999999, -350);
        b.due("all digits, least scale", b.look(), "9.9999999999999999E-334");
        b.dress.number(false, 7, 5, 0);
        b.due("10^9 high and low", b.look(), "7000000005");
        b.dress.number(true, 1, 0, -9);
        b.due("high alone", b.look(), "-1");
        b.dress.number(false, 0, 999999999, 0);
        b.due("low alone", b.look(), "999999999");
    }

    private static void numbersOutOfRange(Bench b) {
        b.sentence("IllegalArgumentException when high is not 0 .. 99999999, low not 0 .. 999999999, or scale not -350 .. "
            + "300.");
        b.dress.number(false, 7, 5, 0);
        int[][] wrong = {{-1, 0, 0}, {100000000, 0, 0}, {0, -1, 0}, {0, 1000000000, 0}, {0, 0, -351}, {0, 0, 301},
            {Integer.MIN_VALUE, 0, 0}, {Integer.MAX_VALUE, 0, 0}, {0, Integer.MIN_VALUE, 0}, {0, Integer.MAX_VALUE, 0},
            {0, 0, Integer.MIN_VALUE}, {0, 0, Integer.MAX_VALUE}};
        for (int[] w : wrong) {
            b.dueThrow("number", () -> b.dress.number(true, w[0], w[1], w[2]), IllegalArgumentException.class);
        }
        b.due("the value stays", b.look(), "7000000005");
    }

    private static void numberTerms(Bench b) {
        b.sentence("A NUMBER is a sign and v times 10^s, v whole and below 10^17, s -350 .. 300, without its sign;");
        b.dueLook("0", "99999999999999999E300", "9".repeat(17) + "0".repeat(300));
        b.dueLook("0", "-99999999999999999", "-" + "9".repeat(17));
        b.dueLook("0.0E+0", "99999999999999999E-350", "1.0E-333");
        b.dueLook("0.0E+0", "-1E-350", "-1.0E-350");
    }

    private static void zeroHasNoSign(Bench b) {
        b.sentence("0 has none.");
        b.dress.number(true, 0, 0, -350);
        b.due("0", b.look(), "0");
        b.code("0;\"below\"");
        b.dress.number(true, 0, 0, 300);
        b.due("takes", b.dress.about(5), 1);
        b.due("0 of two", b.look(), "0");
        b.code("0;\"below\";\"just 0\"");
        b.due("takes the third", b.dress.about(5), 3);
        b.due("0 of three", b.look(), "just 0");
        b.code("d");
        b.due("0 is a date", b.look(), "0");
    }

    private static void texts(Bench b) {
        b.sentence("The value is what is typed (which stays typed), as a text.");
        b.text("a;\"b");
        b.due("the text itself", b.look(), "a;\"b");
        b.due("stays typed", b.dress.type('c'), 5);
        b.due("the value is what was typed", b.look(), "a;\"b");
        b.dress.text();
        b.due("taken again", b.look(), "a;\"bc");
        b.number("5");
        b.due("a number again, in GENERAL", b.look(), "5");
        b.dress.text();
        b.due("still typed", b.look(), "a;\"bc");
        b.due("a text is no code", b.dress.about(1), 0);
    }

    private static void longestText(Bench b) {
        b.sentence("A TEXT has at most 64 characters of 32 .. 126.");
        StringBuilder all = new StringBuilder();
        for (char sign = 32; sign <= 126; sign++) {
            all.append(sign);
        }
        b.text(all.substring(0, 64));
        b.due("the first 64", b.look(), all.substring(0, 64));
        b.anew();
        b.text(all.substring(31));
        b.due("the last 64", b.look(), all.substring(31));
        b.anew();
        b.text("");
        b.due("none", b.look(), "");
    }

    private static void textInSection(Bench b) {
        b.sentence("TEXT: @ is the text.");
        b.dueTextLook("@", "xyz", "xyz");
        b.dueTextLook("0;\"<\"@\\-@\">\"", "xyz", "<xyz-xyz>");
        b.dueTextLook("@", "", "");
        b.dueTextLook("(@)", "", "()");
        b.dueTextLook("@.,/%", "0", "0.,/%");
        b.dueTextLook("\"@\"@\\@", "x", "@x@");
        b.anew();
        b.code("@".repeat(64));
        b.text("abcdefgh".repeat(7) + "ABCDEFGH");
        b.due("64 times 64", b.dress.look(), 4096);
        b.due("first", b.dress.at(0), (int) 'a');
        b.due("last of the first", b.dress.at(63), (int) 'H');
        b.due("first of the second", b.dress.at(64), (int) 'a');
        b.due("last", b.dress.at(4095), (int) 'H');
        b.due("behind the last", b.dress.at(4096), NumberDress.NONE);
        for (int i = 100; i < 4096; i += 37) {
            b.due("at " + i, b.dress.at(i) & 31, i % 8 + 1);
        }
    }

    private static void lengthOfLook(Bench b) {
        b.sentence("How many characters the look of the value has.");
        b.due("0", b.dress.look(), 1);
        b.due("asked again", b.dress.look(), 1);
        b.code("");
        b.due("none", b.dress.look(), 0);
        b.code("0.0;(0.0)");
        b.number("-12.5");
        b.due("another code and value", b.dress.look(), 6);
        b.number("12.5");
        b.due("another value", b.dress.look(), 4);
        b.code("0");
        b.number("1E300");
        b.due("a long one", b.dress.look(), 301);
        b.text("abc");
        b.due("a text", b.dress.look(), 3);
    }

    private static void signsOfLook(Bench b) {
        b.sentence("Character i of the look of the value; NONE when there is none.");
        b.code("0.0");
        b.number("12.5");
        b.due("first, before the length is asked", b.dress.at(0), (int) '1');
        b.due("last", b.dress.at(3), (int) '5');
        b.due("behind the last", b.dress.at(4), NumberDress.NONE);
        b.due("before the first", b.dress.at(-1), NumberDress.NONE);
        b.due("far", b.dress.at(Integer.MAX_VALUE), NumberDress.NONE);
        b.due("far below", b.dress.at(Integer.MIN_VALUE), NumberDress.NONE);
        b.number("7");
        b.due("of the new value", b.dress.at(0), (int) '7');
        b.due("its look is shorter", b.dress.at(3), NumberDress.NONE);
        b.code("");
        b.due("none", b.dress.at(0), NumberDress.NONE);
        b.text("");
        b.due("an empty text", b.dress.at(0), NumberDress.NONE);
    }
}
