/** Promise 1, and how long an object is used. */
public final class NewObjectTest {
    public static void main(String[] args) {
        Bench b = new Bench();
        newObject(b);
        lastCall(b);
        b.due("constant", NumberDress.NONE, -1);
        b.end();
    }

    private static void newObject(Bench b) {
        b.sentence("`NumberDress()`: The code GENERAL, the number 0, no text typed.");
        b.due("look", b.look(), "0");
        b.due("sections", b.dress.about(0), 1);
        b.due("kind", b.dress.about(1), 0);
        b.due("second kind", b.dress.about(2), NumberDress.NONE);
        b.due("section taken", b.dress.about(5), 1);
        b.due("length typed", b.dress.type(0), 0);
        b.number("-12.50");
        b.due("GENERAL", b.look(), "-12.5");
        b.anew();
        b.dress.text();
        b.due("no text typed", b.dress.look(), 0);
        b.due("text takes no section", b.dress.about(5), 0);
        b.due("code of nothing", b.dress.code(), NumberDress.NONE);
        b.due("kind of nothing", b.dress.about(1), 1);
    }

    private static void lastCall(Bench b) {
        b.sentence("An object is used for at most 512 calls after it has been made; what later calls answer is free.");
        b.dress.number(true, 0, 25, -1);
        for (int call = 2; call < 511; call++) {
            b.dress.type(call % 9 == 8 ? 0 : '0');
            if (call % 9 == 8) {
                b.dress.erase();
                call++;
            }
        }
        b.due("call 511", b.dress.look(), 4);
        b.due("call 512", b.dress.at(3), (int) '5');
    }
}
