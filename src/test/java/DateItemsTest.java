/** The terms of a DATE's items: rows of letters, what is counted in all, half days, parts and minutes. */
public final class DateItemsTest {
    private static final String NOON = "2.52152777777778";

    public static void main(String[] args) {
        Bench b = new Bench();
        rows(b);
        inAll(b);
        halfDays(b);
        parts(b);
        minutesBehindHours(b);
        minutesBeforeSeconds(b);
        b.end();
    }

    private static void rows(Bench b) {
        b.sentence("Of a DATE: rows of one letter, as long as it goes: Y of 2 or 4, M of 1 to 5, D of 1 to 4, H and S of 1 or 2");
        String[] letters = {"y", "m", "d", "h", "s"};
        String[] lengths = {"24", "12345", "1234", "12", "12"};
        for (int i = 0; i < letters.length; i++) {
            for (int n = 1; n <= 9; n++) {
                boolean stands = lengths[i].indexOf('0' + n) >= 0;
                b.dueCode(letters[i].repeat(n), stands ? NumberDress.NONE : 0);
                b.dueCode("-" + letters[i].toUpperCase().repeat(n) + "-", stands ? NumberDress.NONE : 1);
            }
            b.dueCode(letters[i].repeat(64), 0);
        }
        b.dueCode("yYy", 0);
        b.dueCode("d yyy", 2);
        b.dueRight("yyyymmdd", "yy\"\"yy", "hh hh", "h*xh");
        b.dueLook("yy\"\"yy", "1", "0000");
        b.dueLook("h\"\"h", "0", "00");
    }

    private static void inAll(Bench b) {
        b.sentence("[ and a row of h, m or s of 1 or 2 and ]: hours, minutes or seconds IN ALL");
        b.dueRight("[h][hh][m][MM][s][SS][hH]");
        for (String letter : "hms".split("")) {
            b.dueCode("[" + letter.repeat(3) + "]", 0);
            b.dueCode("d[" + letter.repeat(3) + "]", 1);
            b.dueCode("[" + letter, 0);
            b.dueCode("[" + letter + " ]", 0);
            b.dueCode("[ " + letter + "]", 0);
        }
        b.dueCode("[hm]", 0);
        b.dueCode("[hhm]", 0);
        b.dueCode("[y]", 0);
        b.dueCode("[d]", 0);
        b.dueCode("[dd]", 0);
        b.dueCode("d[]", 1);
        b.dueLook("[h] [m] [s]", "1.5", "36 2160 129600");
    }

    private static void halfDays(Bench b) {
        b.sentence("AM/PM; A/P;");
        b.dueRight("am/pm A/P a/p AM/pm", "am/pmam/pm", "a/pm");
        b.dueCode("d a", 2);
        b.dueCode("d AM", 2);
        b.dueCode("d AM/P", 2);
        b.dueCode("d A/M", 2);
        b.dueCode("d PM", 2);
        b.dueCode("d P", 2);
        b.dueCode("d A /P", 2);
        b.dueLook("a/pm", "32", "A2");
    }

    private static void parts(Bench b) {
        b.sentence("directly behind a row of S, or [ of s ], a point and one to three 0 (all that stand there: with four the "
            + "item can not stand): PARTS of the second.");
        b.dueRight("s.0 ss.00 [s].000 [ss].0");
        b.dueLook("s.0 ss.00 [s].000", "0.00001", "0.8 00.86 0.864");
        b.dueCode("s.0000", 1);
        b.dueCode("[s].0000", 3);
        b.dueCode("ss.00000", 2);
        b.dueLook("s.", "0.00001", "1.");
        b.dueLook("s.\"0\"", "0.00001", "1.0");
        b.dueCode("s .0", 3);
        b.dueCode("s\"\".0", 4);
        b.dueCode("s*x.0", 4);
        b.dueCode("s[red].0", 7);
        b.dueCode("s..0", 3);
        b.dueCode("s.00.0", 5);
        b.dueCode("s,.0", 3);
        b.dueCode("s.#", 2);
        b.dueCode("s.0#", 3);
        b.dueCode("d.0", 2);
        b.dueCode("m.0", 2);
        b.dueCode("h.0", 2);
        b.dueCode("[h].0", 4);
        b.dueCode("[m].0", 4);
        b.dueCode("a/p.0", 4);
        b.dueCode("d\\s.0", 4);
    }

    private static void minutesBehindHours(Bench b) {
        b.sentence("M of 1 or 2 are MINUTES when the last of all these items before it in the section (literals are passed over, "
            + "no other) is H or [ of h ]");
        b.dueLook("m", NOON, "1");
        b.dueLook("mm", NOON, "01");
        b.dueLook("hm", NOON, "1231");
        b.dueLook("h:mm", NOON, "12:31");
        b.dueLook("[h]m", NOON, "6031");
        b.dueLook("[hh] m", NOON, "60 31");
        b.dueLook("h \"d\"\\s_x.,/% mm", NOON, "12 ds .,/% 31");
        b.dueLook("h mmm", NOON, "12 Jan");
        b.dueLook("h mmmm", NOON, "12 January");
        b.dueLook("h mmmmm", NOON, "12 J");
        b.dueLook("h m m", NOON, "12 31 1");
        b.dueLook("h mmm m", NOON, "12 Jan 1");
        for (String between : "yy m d [m] [s] a/p am/pm s".split(" ")) {
            b.code("h " + between + " ");
            b.number(NOON);
            String before = b.look();
            b.dueLook("h " + between + " m", NOON, before + "1");
        }
        b.dueLook("h s.0 m", NOON, "12 0.0 1");
        b.dueLook("s m", NOON, "0 1");
        b.dueLook("d m", NOON, "2 1");
        b.dueLook("h;m", "-" + NOON, "1");
    }

    private static void minutesBeforeSeconds(Bench b) {
        b.sentence("or the next one is S or [ of s ].");
        b.dueLook("ms", NOON, "310");
        b.dueLook("mm:ss", NOON, "31:00");
        b.dueLook("m[s]", NOON, "31217860");
        b.dueLook("m [ss].0", NOON, "31 217860.0");
        b.dueLook("m \"h\"\\d_x.,/% s", NOON, "31 hd .,/% 0");
        b.dueLook("d m s", NOON, "2 31 0");
        b.dueLook("mmm s", NOON, "Jan 0");
        b.dueLook("m m s", NOON, "1 31 0");
        b.dueLook("m mmm s", NOON, "1 Jan 0");
        b.dueLook("m d s", NOON, "1 2 0");
        b.dueLook("m yy s", NOON, "1 00 0");
        b.dueLook("m h s", NOON, "1 12 0");
        b.dueLook("m [m] s", NOON, "1 3631 0");
        b.dueLook("m [h] s", NOON, "1 60 0");
        b.dueLook("m a/p s", NOON, "1 P 0");
        b.dueLook("m am/pm s", NOON, "1 PM 0");
        b.dueLook("m;s", NOON, "1");
    }
}
