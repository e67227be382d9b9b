/** Promise 9. */
public final class AboutTest {
    public static void main(String[] args) {
        Bench b = new Bench();
        kinds(b, "General;0;\"a\";@", 4, 0, 2, 1, 6);
        kinds(b, "0E+0;0/0;yy", 3, 3, 4, 5, -1);
        kinds(b, "0/8;[m]", 2, 4, 5, -1, -1);
        kinds(b, "@", 1, 6, -1, -1, -1);
        kinds(b, ".,/%", 1, 1, -1, -1, -1);
        kinds(b, ";;;", 4, 1, 1, 1, 1);
        kinds(b, "a/p;\"0\";\\0_0*0", 3, 5, 1, 1, -1);
        takes(b, "0", 1, 1, 1, 0);
        takes(b, "0;0", 1, 2, 1, 0);
        takes(b, "0;0;0", 1, 2, 3, 0);
        takes(b, "0;0;0;", 1, 2, 3, 4);
        takes(b, "0;0;0;@", 1, 2, 3, 4);
        takes(b, "0;0;@", 1, 2, 1, 3);
        takes(b, "0;@", 1, 1, 1, 2);
        takes(b, "@", 0, 0, 0, 1);
        takes(b, "", 1, 1, 1, 0);
        for (int what : new int[] {-1, 6, Integer.MIN_VALUE, Integer.MAX_VALUE}) {
            b.dueThrow("about " + what, () -> b.dress.about(what), IllegalArgumentException.class);
        }
        b.end();
    }

    private static void kinds(Bench b, String code, int... want) {
        b.dueCode(code, NumberDress.NONE);
        for (int what = 0; what < want.length; what++) {
            b.due(code + " about " + what, b.dress.about(what), want[what]);
        }
    }

    private static void takes(Bench b, String code, int above, int below, int zero, int text) {
        b.dueCode(code, NumberDress.NONE);
        b.number("0.001");
        b.due(code + " above 0", b.dress.about(5), above);
        b.number("-0.001");
        b.due(code + " below 0", b.dress.about(5), below);
        b.dress.number(true, 0, 0, 5);
        b.due(code + " 0", b.dress.about(5), zero);
        b.text("0");
        b.due(code + " text", b.dress.about(5), text);
    }
}
