/** Promises 2 and 3. */
public final class TypeEraseTest {
    public static void main(String[] args) {
        Bench b = new Bench();
        b.due("four bytes", b.dress.type('a' << 24 | 'b' << 16 | 'c' << 8 | 'd'), 4);
        b.due("zeros between are passed over", b.dress.type('e' << 24 | 'f'), 6);
        b.due("only the highest", b.dress.type('~' << 24), 7);
        b.due("only the lowest", b.dress.type(' '), 8);
        b.due("none", b.dress.type(0), 8);
        b.dress.text();
        b.due("in order", b.look(), "abcdef~ ");
        wrongBytes(b);
        tooMany(b);
        erased(b);
        b.end();
    }

    private static void wrongBytes(Bench b) {
        int[] words = {31, 127, 128, 255, -1, 'a' << 24 | 31, 127 << 24 | 'a', 'a' << 16 | 1 << 8 | 'b', 0x80000000};
        for (int word : words) {
            b.dueThrow("type " + word, () -> b.dress.type(word), IllegalArgumentException.class);
        }
        b.due("nothing came", b.dress.type(0), 8);
    }

    private static void tooMany(Bench b) {
        b.typed("x".repeat(62));
        b.dueThrow("65", () -> b.dress.type('a' << 16 | 'b' << 8 | 'c'), IllegalStateException.class);
        b.due("a call that throws changes nothing", b.dress.type(0), 62);
        b.due("64", b.dress.type('a' << 24 | 'b'), 64);
        b.due("nothing more is no more", b.dress.type(0), 64);
        b.dueThrow("65", () -> b.dress.type('a'), IllegalStateException.class);
        b.dueThrow("both fit", () -> b.dress.type('a' << 8 | 9), IllegalArgumentException.class);
        b.dress.text();
        b.due("64 signs", b.look(), "x".repeat(62) + "ab");
    }

    private static void erased(Bench b) {
        b.dress.erase();
        b.due("the value stays", b.look(), "x".repeat(62) + "ab");
        b.due("nothing typed", b.dress.type(0), 0);
        b.dress.erase();
        b.due("from the start", b.dress.type('q'), 1);
        b.dress.text();
        b.due("the new one", b.look(), "q");
    }
}
