import java.math.BigDecimal;

/** Promises 4 and 7 to 9 against the oracle, over many made codes and values; the row of them is always the same. */
public final class OracleTest {
    private static final String[] PIECES = {
        "0", "0", "0", "#", "#", "?", "?", ".", ",", "%", "E+", "e-", "/", "8", "16", "100", "0.0", "#,##0", "# ?/", "/??",
        "yy", "yyyy", "m", "mm", "mmm", "mmmm", "mmmmm", "d", "dd", "ddd", "dddd", "h", "hh", "s", "ss", "H", "M", "S",
        "[h]", "[mm]", "[s]", "[hh]", "AM/PM", "a/p", ".0", ".00", ".000", ":", "/", "@", "\"a b\"", "\"0;\"", "\"\"",
        "\\x", "\\0", "_)", "*-", "[red]", "[Blue]", " ", "$", "-", "+", "(", ")", ";", ";", "General", "x", "\"", "\\",
        "[", "]", "h:mm:ss", "yyyy-mm-dd", "0.00E+00", "##0.0E+0", "0,", ",,"
    };
    private static final String[] NUMBER_PIECES = {
        "0", "0", "#", "#", "?", "?", "00", ".", ".0", ".##", ".??", ",", "%", "E+0", "E-00", "/?", "/??", "/000", "/8",
        "/25", "/144", " ", "-", "\"a\"", "[red]", "_x", "*x", ";"
    };
    private static final String[] DATE_PIECES = {
        "yy", "yyyy", "m", "mm", "mmm", "mmmm", "mmmmm", "d", "dd", "ddd", "dddd", "h", "hh", "s", "ss", "s.0", "ss.00",
        "[s].000", "[h]", "[hh]", "[m]", "[mm]", "[ss]", "AM/PM", "A/P", " ", ":", "-", "/", ",", "\"T\"", "[red]", ";"
    };

    private static final String[] SIGNS = "0#?.,%E+-/18ymdhs[]AaPpM@;\"\\_*: Ggz".split("");

    private static long state = 20261115L;

    private static int next(int bound) {
        state = state * 6364136223846793005L + 1442695040888963407L;
        return (int) ((state >>> 33) % bound);
    }

    public static void main(String[] args) {
        Bench b = new Bench();
        int right = 0;
        for (int round = 0; round < 200000; round++) {
            if (round % 10 == 0) {
                b.anew();
            }
            String[] pieces = round % 4 == 0 ? PIECES : round % 4 == 1 ? NUMBER_PIECES
                : round % 4 == 2 ? DATE_PIECES : SIGNS;
            String code = madeCode(pieces);
            Oracle oracle = new Oracle(code);
            b.dueCode(code, oracle.wrong);
            if (oracle.wrong < 0) {
                right++;
                compare(b, code, oracle);
            }
        }
        b.due("enough codes are right", right > 40000, true);
        b.end();
    }

    private static String madeCode(String[] pieces) {
        StringBuilder code = new StringBuilder();
        int count = 1 + next(8);
        for (int i = 0; i < count; i++) {
            code.append(pieces[next(pieces.length)]);
        }
        return code.length() > 64 ? code.substring(0, 64) : code.toString();
    }

    private static void compare(Bench b, String code, Oracle oracle) {
        b.due(code + " sections", b.dress.about(0), oracle.parts.size());
        for (int i = 1; i <= 4; i++) {
            int kind = i <= oracle.parts.size() ? oracle.parts.get(i - 1).kind : NumberDress.NONE;
            b.due(code + " kind " + i, b.dress.about(i), kind);
        }
        for (int i = 0; i < 3; i++) {
            String decimal = madeNumber();
            b.number(decimal);
            BigDecimal number = new BigDecimal(decimal);
            b.due(code + " takes " + decimal, b.dress.about(5), oracle.sectionOf(number));
            b.due(code + " of " + decimal, b.look(), oracle.look(number));
        }
        b.text("ab;");
        b.due(code + " takes a text", b.dress.about(5), oracle.sectionOf("ab;"));
        b.due(code + " of a text", b.look(), oracle.look("ab;"));
    }

    private static String madeNumber() {
        StringBuilder n = new StringBuilder(next(3) == 0 ? "-" : "");
        switch (next(8)) {
            case 0:
                return n.append(next(4)).toString();
            case 1:
                return n.append(next(2958470)).append('.').append(madeDigits(10)).toString();
            case 2:
                return n.append(next(100)).append('.').append(madeDigits(15)).toString();
            case 3:
                return n.append(next(70)).append(next(2) == 0 ? ".99999" : ".").append(madeDigits(9)).toString();
            case 4:
                return n.append("9".repeat(1 + next(17))).append('E').append(next(40) - 20).toString();
            case 5:
                return n.append(madeDigits(17)).append('E').append(next(651) - 350).toString();
            case 6:
                return n.append(madeDigits(17)).append('E').append(-next(40)).toString();
            default:
                return n.append(next(1000)).append(".5").toString();
        }
    }

    private static String madeDigits(int most) {
        StringBuilder digits = new StringBuilder();
        int count = 1 + next(most);
        for (int i = 0; i < count; i++) {
            digits.append(next(10));
        }
        return digits.toString();
    }
}
