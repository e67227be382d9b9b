/** The terms of kinds, and promise 9 where it tells them. */
public final class KindTest {
    public static void main(String[] args) {
        Bench b = new Bench();
        kindOfFirst(b);
        plain(b);
        noItem(b);
        signsInOtherKinds(b);
        itemsOfText(b);
        b.end();
    }

    private static void kind(Bench b, String code, int want) {
        b.dueRight(code);
        b.due(code + " kind", b.dress.about(1), want);
    }

    private static void kindOfFirst(Bench b) {
        b.sentence("The KIND of a section: that of the first of its items which is, or begins with, 0 # or ? (NUMBER), y m d h "
            + "s, [ and a row of one of h m s and ], AM/PM, A/P (DATE), or @ (TEXT)");
        for (String code : "0 # ? .0 %0 0. \"d\"0 \\@0 _d0 *d0 [red]0 -0".split(" ")) {
            kind(b, code, 2);
        }
        for (String code : "yy m d h s M D H S YYYY [h] [M] [ss] AM/PM a/p -d .d ,d /d %d \"0\"d [red]d \\0s".split(" ")) {
            kind(b, code, 5);
        }
        for (String code : "@ .@ %@ \"0\"@ \\d@ [red]@".split(" ")) {
            kind(b, code, 6);
        }
        b.dueCode("0d", 1);
        b.dueCode("0[h]", 1);
        b.dueCode("0AM/PM", 1);
        b.dueCode("0A/P", 1);
        b.dueCode("0@", 1);
        b.dueCode("d0", 1);
        b.dueCode("d@", 1);
        b.dueCode("[m]#", 3);
        b.dueCode("a/p?", 3);
        b.dueCode("@0", 1);
        b.dueCode("@d", 1);
        b.dueCode("@[h]", 1);
        b.dueCode("@AM/PM", 1);
        // An item that can not stand makes the kind all the same: a comma is a literal before it in a date.
        b.dueCode(",[hhh]0", 1);
        b.dueCode(",yyy0", 1);
    }

    private static void plain(Bench b) {
        b.sentence("PLAIN, if there is none.");
        kind(b, "", 1);
        kind(b, "\"0\"", 1);
        kind(b, "\\0_d*@", 1);
        kind(b, "[red]", 1);
        kind(b, "-", 1);
        kind(b, ".,/%", 1);
        b.dueCode(",/8", 2);
        b.dueCode("E+", 0);
    }

    private static void noItem(Bench b) {
        b.sentence("(What is no item at all is passed over for this, character by character.)");
        b.dueCode(",x", 1);
        b.dueCode(",x0", 0);
        b.dueCode(",xd0", 1);
        b.dueCode(",x@0", 1);
        b.dueCode(",|\"d\"0", 0);
        b.dueCode(",[red0", 1);
        b.dueCode(",[r0", 0);
        b.dueCode(",[red]0", 0);
        b.dueCode(",AM0", 1);
        b.dueCode(",A/0", 0);
        b.dueCode(",x/p0", 0);
        b.dueCode(",axp0", 0);
        b.dueCode(",a/x0", 0);
        b.dueCode(",]0", 0);
        b.dueCode(",\"0", 0);
        b.dueCode(",\"d0", 1);
    }

    private static void signsInOtherKinds(Bench b) {
        b.sentence("In PLAIN, DATE and TEXT sections . , / % are literals, too.");
        b.dueLook(".,/%", "5", ".,/%");
        b.dueLook("..,,//%%", "5", "..,,//%%");
        b.dueLook(".,/%d.,/%", "5", ".,/%5.,/%");
        b.dueTextLook(".,/%@.,/%", "x", ".,/%x.,/%");
        b.dueCode(",0", 0);
        b.dueCode("/0", 0);
        b.dueCode("..0", 1);
    }

    private static void itemsOfText(Bench b) {
        b.sentence("Of a TEXT: @.");
        b.dueRight("@", "@@", "\"a\"@-@", "@".repeat(64));
        for (char sign = 33; sign <= 126; sign++) {
            boolean stands = "$-+():!^&'~{}<>=.,/%@".indexOf(sign) >= 0;
            b.dueCode("@ " + sign, stands ? NumberDress.NONE : 2);
        }
        b.dueCode("@E+0", 1);
        b.dueCode("@AM/PM", 1);
        b.dueCode("@[s]", 1);
    }
}
