/** Promise 1. */
public final class NewObjectTest {
    public static void main(String[] args) {
        Bench b = new Bench();
        b.due("look", b.look(), "0");
        b.due("sections", b.dress.about(0), 1);
        b.due("kind", b.dress.about(1), 0);
        b.due("second kind", b.dress.about(2), NumberDress.NONE);
        b.due("section taken", b.dress.about(5), 1);
        b.due("length typed", b.dress.type(0), 0);
        b.number("-12.50");
        b.due("GENERAL", b.look(), "-12.5");
        b.anew();
        b.dress.text();
        b.due("no text typed", b.dress.look(), 0);
        b.due("text takes no section", b.dress.about(5), 0);
        b.due("code of nothing", b.dress.code(), NumberDress.NONE);
        b.due("kind of nothing", b.dress.about(1), 1);
        b.due("constant", NumberDress.NONE, -1);
        b.end();
    }
}
