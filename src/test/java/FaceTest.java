import java.lang.reflect.Constructor;
import java.lang.reflect.Field;
import java.lang.reflect.Method;
import java.lang.reflect.Modifier;
import java.util.Set;
import java.util.TreeSet;

/** The public face is the document's and no more; no private method bears a public one's name. */
public final class FaceTest {
    public static void main(String[] args) {
        Bench b = new Bench();
        Set<String> face = new TreeSet<>();
        Set<String> open = new TreeSet<>();
        for (Method m : NumberDress.class.getDeclaredMethods()) {
            if (Modifier.isPublic(m.getModifiers())) {
                face.add(m.getName());
            }
        }
        for (Class<?> c : NumberDress.class.getDeclaredClasses()) {
            for (Method m : c.getDeclaredMethods()) {
                b.due(c.getSimpleName() + "." + m.getName() + " bears a name of the face", face.contains(m.getName()), false);
            }
            b.due(c.getSimpleName() + " is static", Modifier.isStatic(c.getModifiers()), true);
        }
        for (Method m : NumberDress.class.getDeclaredMethods()) {
            if (!Modifier.isPrivate(m.getModifiers())) {
                open.add(m.toString());
            }
        }
        for (Field f : NumberDress.class.getDeclaredFields()) {
            if (!Modifier.isPrivate(f.getModifiers())) {
                open.add(f.toString());
            }
        }
        for (Constructor<?> c : NumberDress.class.getDeclaredConstructors()) {
            open.add(c.toString());
        }
        String bad = " throws java.lang.IllegalArgumentException";
        b.due("the face", open, new TreeSet<>(Set.of(
            "public static final int NumberDress.NONE",
            "public NumberDress()",
            "public int NumberDress.type(int)" + bad + ",java.lang.IllegalStateException",
            "public void NumberDress.erase()",
            "public int NumberDress.code()",
            "public void NumberDress.number(boolean,int,int,int)" + bad,
            "public void NumberDress.text()",
            "public int NumberDress.look()",
            "public int NumberDress.at(int)",
            "public int NumberDress.about(int)" + bad)));
        b.due("final", Modifier.isFinal(NumberDress.class.getModifiers()), true);
        b.end();
    }
}
