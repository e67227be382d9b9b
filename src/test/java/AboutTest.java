/** Promise 9. */
public final class AboutTest {
    public static void main(String[] args) {
        Bench b = new Bench();
        howMany(b);
        kinds(b);
        none(b);
        taken(b);
        wrongWhat(b);
        b.end();
    }

    private static void howMany(Bench b) {
        b.sentence("Of the code: what = 0 how many sections");
        String[] codes = {"", "0", ";", "0;0", "0;0;", ";;;", "0;0;0;@", "\";\"", "@"};
        int[] counts = {1, 1, 2, 2, 3, 4, 4, 1, 1};
        for (int i = 0; i < codes.length; i++) {
            b.dueRight(codes[i]);
            b.due(codes[i] + " sections", b.dress.about(0), counts[i]);
        }
    }

    private static void dueKinds(Bench b, String code, int... want) {
        b.dueRight(code);
        for (int i = 0; i < want.length; i++) {
            b.due(code + " about " + (i + 1), b.dress.about(i + 1), want[i]);
        }
    }

    private static void kinds(Bench b) {
        b.sentence("1 to 4 the kind of that section: 0 GENERAL, 1 PLAIN, 2 NUMBER, 3 NUMBER with a POWER, 4 with a FRACTION, 5 "
            + "DATE, 6 TEXT");
        dueKinds(b, "General;0;\"a\";@", 0, 2, 1, 6);
        dueKinds(b, "0E+0;0/0;yy", 3, 4, 5);
        dueKinds(b, "0/8;[m]", 4, 5);
        dueKinds(b, ";;;", 1, 1, 1, 1);
        dueKinds(b, "a/p;\"0\";\\0_0*0;@", 5, 1, 1, 6);
        dueKinds(b, "\"E+0\"0;0\"/0\"", 2, 2);
    }

    private static void none(Bench b) {
        b.sentence("NONE when there is none; 5 which");
        dueKinds(b, "0", 2, -1, -1, -1);
        dueKinds(b, "0;0;0;@", 2, 2, 2, 6);
        dueKinds(b, "0;0;0", 2, 2, 2, -1);
        dueKinds(b, "0;0", 2, 2, -1, -1);
        dueKinds(b, "@", 6, -1, -1, -1);
        dueKinds(b, "", 1, -1, -1, -1);
        b.dueCode("0;0;x", 4);
        b.due("a wrong code tells nothing", b.dress.about(2), -1);
    }

    private static void taken(Bench b) {
        b.sentence("5 which section the value takes (1 to 4; 0 for none).");
        dueTaken(b, "0", 1, 1, 1, 0);
        dueTaken(b, "0;0", 1, 2, 1, 0);
        dueTaken(b, "0;0;0", 1, 2, 3, 0);
        dueTaken(b, "0;0;0;", 1, 2, 3, 4);
        dueTaken(b, "0;0;0;@", 1, 2, 3, 4);
        dueTaken(b, "0;0;@", 1, 2, 1, 3);
        dueTaken(b, "0;@", 1, 1, 1, 2);
        dueTaken(b, "@", 0, 0, 0, 1);
        dueTaken(b, "", 1, 1, 1, 0);
        dueTaken(b, "General", 1, 1, 1, 0);
    }

    private static void dueTaken(Bench b, String code, int above, int below, int zero, int text) {
        b.dueRight(code);
        b.number("1E-350");
        b.due(code + " above 0", b.dress.about(5), above);
        b.number("-1E-350");
        b.due(code + " below 0", b.dress.about(5), below);
        b.dress.number(true, 0, 0, 5);
        b.due(code + " 0", b.dress.about(5), zero);
        b.text("0");
        b.due(code + " text", b.dress.about(5), text);
        b.text("");
        b.due(code + " empty text", b.dress.about(5), text);
    }

    private static void wrongWhat(Bench b) {
        b.sentence("IllegalArgumentException when what is none of these.");
        for (int what : new int[] {-1, 6, 7, 256, Integer.MIN_VALUE, Integer.MAX_VALUE}) {
            b.dueThrow("about " + what, () -> b.dress.about(what), IllegalArgumentException.class);
        }
        for (int what = 0; what <= 5; what++) {
            int right = what;
            b.due("about " + what, b.dress.about(right), what == 0 || what == 5 ? 1 : what == 1 ? 0 : -1);
        }
    }
}
