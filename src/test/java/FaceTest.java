import java.lang.reflect.Constructor;
import java.lang.reflect.Field;
import java.lang.reflect.Method;
import java.lang.reflect.Modifier;
import java.util.Set;
import java.util.TreeSet;

/** The class has the document's face, throws clauses too, and nothing else that can be seen from outside. */
public final class FaceTest {
    private static final String FACE = """
            int place(int, int) IllegalArgumentException
            int way(int, int, int, int, int, int) NoSuchElementException, IllegalArgumentException
            int mark(int, int, boolean, int, int) NoSuchElementException, IllegalArgumentException
            int ends(boolean, int, int) NoSuchElementException, IllegalArgumentException
            int state(int, int) NoSuchElementException, IllegalArgumentException
            int out(int, int, int) NoSuchElementException, IllegalArgumentException
            int on(int, int, int) NoSuchElementException, IllegalArgumentException
            int tongue()
            int means(int, int, int) NoSuchElementException, IllegalArgumentException
            int walker(int, int, boolean, boolean, int) NoSuchElementException, IllegalArgumentException
            boolean stands(int, int, int, int, boolean) NoSuchElementException, IllegalArgumentException
            int worth(int, int, int, int) NoSuchElementException, IllegalArgumentException
            int feed(int, int, int, int, int)
            int telling(int, int, int) NoSuchElementException, IllegalArgumentException
            int fault(int)
            int sayings(int) NoSuchElementException
            int leads(int, int, int, int, int, int) NoSuchElementException, IllegalArgumentException
            int holds(int, int, int, int) NoSuchElementException, IllegalArgumentException
            int end(int, int, int, int, int) NoSuchElementException, IllegalArgumentException
            boolean right(int, int, int, int) NoSuchElementException, IllegalArgumentException
            int odds(int, int, int, int, int) NoSuchElementException, IllegalArgumentException
            int parts(int, int, int, int) NoSuchElementException, IllegalArgumentException
            int hangs(int, int, int, int, boolean) NoSuchElementException, IllegalArgumentException
            int years(int, int, int, int) NoSuchElementException, IllegalArgumentException
            int two(int, int, int, int, int, int, int) NoSuchElementException, IllegalArgumentException
            int ask(int, int, int, int, int, int, boolean) NoSuchElementException, IllegalArgumentException
            int shortest(int, int, int, int, int, int) NoSuchElementException, IllegalArgumentException
            int went(int, int, int, int, int) NoSuchElementException, IllegalArgumentException
            int learned(int, int) NoSuchElementException
            int teller()
            int told(int, boolean) IllegalArgumentException
            void tray(int, int, int) NoSuchElementException, IllegalArgumentException
            long write(int, int, long) NoSuchElementException, IllegalStateException, IndexOutOfBoundsException
            int say(int, int, int) NoSuchElementException, IllegalStateException, IllegalArgumentException
            void image(int) NoSuchElementException
            void restore(int) NoSuchElementException, IllegalStateException
            int count(int)
            """;

    private FaceTest() {
    }

    public static void main(String[] args) {
        Set<String> due = new TreeSet<>(Set.of(FACE.split("\n")));
        Set<String> got = new TreeSet<>();
        Set<String> names = new TreeSet<>();
        for (Method m : BurntOak.class.getDeclaredMethods()) {
            if (!Modifier.isPrivate(m.getModifiers())) {
                got.add(line(m));
                names.add(m.getName());
                Check.so("the face is public: " + m, Modifier.isPublic(m.getModifiers()) && !Modifier.isStatic(m.getModifiers()));
            }
        }
        Check.same("the face", String.join("\n", got), String.join("\n", due));
        for (Method m : BurntOak.class.getDeclaredMethods()) {
            Check.so("rule 1: " + m, !Modifier.isPrivate(m.getModifiers()) || !names.contains(m.getName()));
        }
        for (Class<?> inside : BurntOak.class.getDeclaredClasses()) {
            Check.so("rule 1: " + inside, Modifier.isStatic(inside.getModifiers()) && !Modifier.isPublic(inside.getModifiers()));
            Check.so("rule 11: fields of " + inside, fields(inside) <= 20);
        }
        Check.so("rule 11: classes", BurntOak.class.getDeclaredClasses().length < 12);
        for (Field f : BurntOak.class.getDeclaredFields()) {
            Check.so("rule 1: " + f, Modifier.isPrivate(f.getModifiers()) || f.getName().equals("NONE"));
        }
        for (Constructor<?> c : BurntOak.class.getDeclaredConstructors()) {
            Check.so("the constructor", Modifier.isPublic(c.getModifiers()) && c.getParameterCount() == 0);
        }
        Check.so("public and final", Modifier.isPublic(BurntOak.class.getModifiers()) && Modifier.isFinal(BurntOak.class.getModifiers()));
        Check.same("NONE", BurntOak.NONE, -1);
        Check.finish(FaceTest.class);
    }

    private static String line(Method m) {
        StringBuilder line = new StringBuilder(m.getReturnType().getSimpleName()).append(' ').append(m.getName()).append('(');
        for (int n = 0; n < m.getParameterCount(); n++) {
            line.append(n == 0 ? "" : ", ").append(m.getParameterTypes()[n].getSimpleName());
        }
        line.append(')');
        for (int n = 0; n < m.getExceptionTypes().length; n++) {
            line.append(n == 0 ? " " : ", ").append(m.getExceptionTypes()[n].getSimpleName());
        }
        return line.toString();
    }

    private static int fields(Class<?> inside) {
        int many = 0;
        for (Field f : inside.getDeclaredFields()) {
            many += Modifier.isStatic(f.getModifiers()) ? 0 : 1;
        }
        return many;
    }
}
