/** Promises 2 and 3. */
public final class TypeEraseTest {
    public static void main(String[] args) {
        Bench b = new Bench();
        bytesInOrder(b);
        wrongBytes(b);
        tooMany(b);
        throwsChangeNothing(b);
        firstNamedIsThrown(b);
        erased(b);
        b.end();
    }

    private static void bytesInOrder(Bench b) {
        b.sentence("The bytes of a word that are not 0, the highest first, come to the end of what is typed; answers its "
            + "length.");
        b.due("four bytes", b.dress.type('a' << 24 | 'b' << 16 | 'c' << 8 | 'd'), 4);
        b.due("zeros between are passed over", b.dress.type('e' << 24 | 'f'), 6);
        b.due("only the highest", b.dress.type('~' << 24), 7);
        b.due("only the lowest", b.dress.type(' '), 8);
        b.due("only the second", b.dress.type('2' << 16), 9);
        b.due("only the third", b.dress.type('3' << 8), 10);
        b.due("none", b.dress.type(0), 10);
        b.dress.text();
        b.due("in order", b.look(), "abcdef~ 23");
    }

    private static void wrongBytes(Bench b) {
        b.sentence("IllegalArgumentException when one is not 32 .. 126;");
        for (int shift = 0; shift < 32; shift += 8) {
            for (int sign = 0; sign < 256; sign++) {
                int alone = sign << shift;
                int among = ('a' << 24 | 'b' << 16 | 'c' << 8 | 'd') & ~(255 << shift) | alone;
                b.anew();
                if (sign == 0 || sign >= 32 && sign <= 126) {
                    b.due("type " + alone, b.dress.type(alone), sign == 0 ? 0 : 1);
                    b.due("type " + among, b.dress.type(among), sign == 0 ? 3 : 5);
                } else {
                    b.dueThrow("type " + alone, () -> b.dress.type(alone), IllegalArgumentException.class);
                    b.dueThrow("type " + among, () -> b.dress.type(among), IllegalArgumentException.class);
                }
            }
        }
        b.dueThrow("type -1", () -> b.dress.type(-1), IllegalArgumentException.class);
    }

    private static void tooMany(Bench b) {
        b.sentence("IllegalStateException when there would be more than 64.");
        b.typed("x".repeat(62));
        b.dueThrow("65", () -> b.dress.type('a' << 16 | 'b' << 8 | 'c'), IllegalStateException.class);
        b.due("64", b.dress.type('a' << 24 | 'b'), 64);
        b.due("nothing more is no more", b.dress.type(0), 64);
        b.dueThrow("65", () -> b.dress.type('a'), IllegalStateException.class);
        b.dueThrow("68", () -> b.dress.type('a' << 24 | 'b' << 16 | 'c' << 8 | 'd'), IllegalStateException.class);
        b.dress.text();
        b.due("64 signs", b.look(), "x".repeat(62) + "ab");
        b.anew();
        b.typed("x".repeat(60));
        b.due("60 and 4", b.dress.type('a' << 24 | 'b' << 16 | 'c' << 8 | 'd'), 64);
        b.anew();
        b.typed("x".repeat(61));
        b.dueThrow("61 and 4", () -> b.dress.type('a' << 24 | 'b' << 16 | 'c' << 8 | 'd'), IllegalStateException.class);
        b.due("61 and 3", b.dress.type('a' << 24 | 'b' << 16 | 'c'), 64);
    }

    private static void throwsChangeNothing(Bench b) {
        b.sentence("A call that throws changes nothing;");
        b.typed("0.0");
        b.dress.code();
        b.number("2.25");
        b.dueThrow("a wrong byte behind right ones", () -> b.dress.type('a' << 24 | 'b' << 16 | 'c' << 8 | 7),
            IllegalArgumentException.class);
        b.due("nothing came", b.dress.type(0), 3);
        b.dueThrow("a wrong byte before right ones", () -> b.dress.type(127 << 24 | 'a'), IllegalArgumentException.class);
        b.due("nothing came again", b.dress.type(0), 3);
        b.dress.text();
        b.due("what was typed", b.look(), "0.0");
        b.typed("y".repeat(62));
        b.dueThrow("65", () -> b.dress.type('a' << 16 | 'b' << 8 | 'c'), IllegalStateException.class);
        b.due("not even as many as fit", b.dress.type(0), 62);
        b.dress.text();
        b.due("62 signs", b.look(), "y".repeat(62));
        b.number("2.25");
        b.dueThrow("high", () -> b.dress.number(true, -1, 5, 5), IllegalArgumentException.class);
        b.dueThrow("low", () -> b.dress.number(true, 5, -1, 5), IllegalArgumentException.class);
        b.dueThrow("scale", () -> b.dress.number(true, 5, 5, 301), IllegalArgumentException.class);
        b.dueThrow("about", () -> b.dress.about(6), IllegalArgumentException.class);
        b.due("value and code are as they were", b.look(), "2.3");
        b.text("t");
        b.dueThrow("scale", () -> b.dress.number(true, 5, 5, 301), IllegalArgumentException.class);
        b.due("a text stays one", b.look(), "t");
    }

    private static void firstNamedIsThrown(Bench b) {
        b.sentence("where several exceptions that a call names fit, the one named first is thrown.");
        b.typed("x".repeat(64));
        b.dueThrow("the wrong byte last", () -> b.dress.type('a' << 8 | 9), IllegalArgumentException.class);
        b.dueThrow("the wrong byte first", () -> b.dress.type(9 << 8 | 'a'), IllegalArgumentException.class);
        b.dueThrow("the wrong byte alone", () -> b.dress.type(127), IllegalArgumentException.class);
        b.dueThrow("no wrong byte", () -> b.dress.type('a'), IllegalStateException.class);
    }

    private static void erased(Bench b) {
        b.sentence("`void erase()`: Nothing is typed.");
        b.typed("0.0");
        b.dress.code();
        b.text("x".repeat(64));
        b.dress.erase();
        b.due("nothing typed", b.dress.type(0), 0);
        b.due("the value stays", b.look(), "x".repeat(64));
        b.dress.erase();
        b.due("from the start", b.dress.type('q'), 1);
        b.dress.text();
        b.due("the new one", b.look(), "q");
        b.number("7");
        b.due("the code stays", b.look(), "7.0");
        b.dress.erase();
        b.dress.text();
        b.due("an empty text", b.dress.look(), 0);
    }
}
