/** Promises 5 to 8: what a number and a text are, and how a look is asked for. */
public final class ValueTest {
    public static void main(String[] args) {
        Bench b = new Bench();
        ranges(b);
        texts(b);
        signsOfLooks(b);
        b.end();
    }

    private static void ranges(Bench b) {
        b.dress.number(false, 99999999, 999999999, 300);
        b.due("greatest", b.look(), "9.9999999999999999E316");
        b.dress.number(true, 0, 1, -350);
        b.due("least", b.look(), "-1E-350");
        b.dress.number(true, 0, 0, -350);
        b.due("0 has no sign", b.look(), "0");
        b.dress.number(false, 7, 5, 0);
        b.due("10^9 high and low", b.look(), "7000000005");
        int[][] wrong = {{-1, 0, 0}, {100000000, 0, 0}, {0, -1, 0}, {0, 1000000000, 0}, {0, 0, -351}, {0, 0, 301},
            {Integer.MIN_VALUE, 0, 0}, {0, Integer.MAX_VALUE, 0}, {0, 0, Integer.MIN_VALUE}};
        for (int[] w : wrong) {
            b.dueThrow("number", () -> b.dress.number(true, w[0], w[1], w[2]), IllegalArgumentException.class);
        }
        b.due("the value stays", b.look(), "7000000005");
    }

    private static void texts(Bench b) {
        b.text("a;\"b");
        b.due("the text itself", b.look(), "a;\"b");
        b.due("stays typed", b.dress.type('c'), 5);
        b.due("the value is what was typed", b.look(), "a;\"b");
        b.dueTextLook("@", "xyz", "xyz");
        b.dueTextLook("0;\"<\"@\\-@\">\"", "xyz", "<xyz-xyz>");
        b.dueTextLook("0;0;0;\"none\"", "xyz", "none");
        b.dueTextLook("0;0;0;", "xyz", "");
        b.dueTextLook("0;0;0", "xyz", "xyz");
        b.dueTextLook("\"a\"", "xyz", "xyz");
        b.dueTextLook("General", "0", "0");
        b.dueTextLook("@", "", "");
        b.dueTextLook("@".repeat(64), "abcdefgh".repeat(8), "abcdefgh".repeat(8 * 64));
        b.number("5");
        b.due("a number again, in GENERAL", b.look(), "5");
    }

    private static void signsOfLooks(Bench b) {
        b.dueLook("0.0", "12.5", "12.5");
        b.due("behind the last", b.dress.at(4), NumberDress.NONE);
        b.due("before the first", b.dress.at(-1), NumberDress.NONE);
        b.due("far", b.dress.at(Integer.MAX_VALUE), NumberDress.NONE);
        b.due("far below", b.dress.at(Integer.MIN_VALUE), NumberDress.NONE);
        b.due("first", b.dress.at(0), (int) '1');
        b.due("last", b.dress.at(3), (int) '5');
        b.dueLook("", "12.5", "");
        b.due("none", b.dress.at(0), NumberDress.NONE);
    }
}
