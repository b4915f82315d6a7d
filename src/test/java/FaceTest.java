import java.lang.reflect.Constructor;
import java.lang.reflect.Field;
import java.lang.reflect.Method;
import java.lang.reflect.Modifier;
import java.util.Arrays;
import java.util.Set;
import java.util.TreeSet;

/** The document's face and no other, and those rules of LANGUAGE.md that a compiled class shows. */
public final class FaceTest {
    private static final String[] FACE = {
        "int strikes(int)", "int lifts(int)", "int moves(int,int)", "int draws(int,int)", "int shifts(int)",
        "int sets(int,int)", "int time(int)", "int cost()", "int bar(int,int)", "int written(int,int)",
        "int shown(int,int)", "int count(int)", "int bent(int)", "int forced(int)", "int without(int)",
        "int exact()", "int type(int)", "int clear()", "int plays()", "int back()", "int told(int)",
        "long digest()"};

    public static void main(String[] args) {
        constants();
        members();
        classesInside();
        Check.end("FaceTest");
    }

    private static void constants() {
        Check.due("NONE", PlayedWritten.NONE, -1);
        Check.due("BAD", PlayedWritten.BAD, -2);
        Check.due("NO", PlayedWritten.NO, -3);
        Check.due("FULL", PlayedWritten.FULL, -4);
        Set<String> open = new TreeSet<>();
        for (Field f : PlayedWritten.class.getDeclaredFields()) {
            if (!Modifier.isPrivate(f.getModifiers())) {
                open.add(Modifier.toString(f.getModifiers()) + " " + f.getType() + " " + f.getName());
            }
        }
        String lead = "public static final int ";
        Check.due("open fields", open.toString(),
                new TreeSet<>(Set.of(lead + "NONE", lead + "BAD", lead + "NO", lead + "FULL")).toString());
    }

    private static String sign(Method m) {
        StringBuilder s = new StringBuilder(m.getReturnType() + " " + m.getName() + "(");
        for (Class<?> p : m.getParameterTypes()) {
            s.append(s.charAt(s.length() - 1) == '(' ? "" : ",").append(p);
        }
        return s.append(')').toString();
    }

    private static void members() {
        Class<?> c = PlayedWritten.class;
        Check.holds("public and final", Modifier.isPublic(c.getModifiers()) && Modifier.isFinal(c.getModifiers()));
        Constructor<?>[] made = c.getDeclaredConstructors();
        Check.holds("one constructor, public, without numbers", made.length == 1
                && Modifier.isPublic(made[0].getModifiers()) && made[0].getParameterCount() == 0);
        Set<String> open = new TreeSet<>();
        Set<String> names = new TreeSet<>();
        for (Method m : c.getDeclaredMethods()) {
            if (!Modifier.isPrivate(m.getModifiers())) {
                Check.holds(m + " is public", Modifier.isPublic(m.getModifiers()) && !Modifier.isStatic(m.getModifiers()));
                open.add(sign(m));
                names.add(m.getName());
            }
        }
        Check.due("the face", open.toString(), new TreeSet<>(Arrays.asList(FACE)).toString());
        for (Method m : c.getDeclaredMethods()) {
            Check.holds(m + " has a name of its own", !Modifier.isPrivate(m.getModifiers()) || !names.contains(m.getName()));
        }
    }

    private static void classesInside() {
        Class<?>[] inside = PlayedWritten.class.getDeclaredClasses();
        Check.holds("some twelve classes", inside.length < 12);
        look(PlayedWritten.class);
        for (Class<?> c : inside) {
            int modifiers = c.getModifiers();
            Check.holds(c + " is static and not public",
                    Modifier.isStatic(modifiers) && !Modifier.isPublic(modifiers) && !Modifier.isProtected(modifiers));
            look(c);
        }
    }

    private static void look(Class<?> c) {
        int fields = 0;
        for (Field f : c.getDeclaredFields()) {
            boolean isStatic = Modifier.isStatic(f.getModifiers());
            Check.holds(f + " is final, if static", !isStatic || Modifier.isFinal(f.getModifiers()));
            fields += isStatic ? 0 : 1;
        }
        Check.holds(c + " has some twenty fields", fields <= 20);
        for (Method m : c.getDeclaredMethods()) {
            Check.holds(m + " takes seven at most", m.getParameterCount() <= 7);
            Check.holds(m + " is no lambda", !m.isSynthetic());
        }
    }
}
