import java.lang.reflect.Constructor;
import java.lang.reflect.Field;
import java.lang.reflect.Method;
import java.lang.reflect.Modifier;
import java.util.Arrays;
import java.util.Set;
import java.util.TreeSet;
import java.util.stream.Collectors;

/** The face is the document's and no more (rules 1 and 5 of LANGUAGE.md). */
public final class FaceTest {
    private static final String FACE = """
        write(int,long)int wipe()int fault()int lay()int word(int,int)int bake(int,int)int day()int bite(int)int take(int)int
        undo()int loaf(int,int)int becomes(int,int,int)int mayBe(int,int,int)int can(int,int,int,int)int was(int,int,int)int
        half(int,int,int)int code(int,int,int,int)int sent(int,int,int,int)int whom(int,int)int two(int,int,int,int,int)long
        said(int,int)int told(int,int)int month(int,int,int)int keep()int back()int count(int)int""";

    public static void main(String[] args) throws Exception {
        Class<?> face = LoafLetters.class;
        Set<String> open = new TreeSet<>();
        Set<String> names = new TreeSet<>();
        for (Method m : face.getDeclaredMethods()) {
            if (!Modifier.isPrivate(m.getModifiers())) {
                open.add(described(m));
                names.add(m.getName());
            }
        }
        same("methods", open, new TreeSet<>(Arrays.asList(FACE.trim().split("\\s+"))));
        Due.due("public final", face.getModifiers(), Modifier.PUBLIC | Modifier.FINAL);
        Constructor<?>[] made = face.getDeclaredConstructors();
        Due.due("constructors", made.length, 1);
        Due.due("constructor is public", made[0].getModifiers(), Modifier.PUBLIC);
        Due.due("constructor's parameters", made[0].getParameterCount(), 0);
        constants(face);
        inside(face, names);
        Due.end("FaceTest");
    }

    private static String described(Method m) {
        String types = Arrays.stream(m.getParameterTypes()).map(Class::getName).collect(Collectors.joining(","));
        return m.getName() + "(" + types + ")" + m.getReturnType().getName();
    }

    private static void same(String what, Set<String> got, Set<String> want) {
        if (!got.equals(want)) {
            System.out.println(what + " are " + got + ", due are " + want);
        }
        Due.due(what, got.equals(want) ? 1 : 0, 1);
    }

    private static void constants(Class<?> face) throws Exception {
        Set<String> open = new TreeSet<>();
        for (Field f : face.getDeclaredFields()) {
            if (!Modifier.isPrivate(f.getModifiers())) {
                open.add(f.getName());
                Due.due(f.getName() + "'s modifiers", f.getModifiers(), Modifier.PUBLIC | Modifier.STATIC | Modifier.FINAL);
            }
        }
        same("constants", open, new TreeSet<>(Set.of("BAD", "NO", "FULL", "NONE")));
        Due.due("BAD", face.getField("BAD").getInt(null), -1);
        Due.due("NO", face.getField("NO").getInt(null), -2);
        Due.due("FULL", face.getField("FULL").getInt(null), -3);
        Due.due("NONE", face.getField("NONE").getInt(null), -4);
    }

    private static void inside(Class<?> face, Set<String> names) {
        for (Method m : face.getDeclaredMethods()) {
            if (Modifier.isPrivate(m.getModifiers())) {
                Due.due(m.getName() + " is a name of the face", names.contains(m.getName()) ? 1 : 0, 0);
            }
        }
        Due.due("classes inside, some twelve at most", face.getDeclaredClasses().length <= 12 ? 1 : 0, 1);
        for (Class<?> c : face.getDeclaredClasses()) {
            Due.due(c.getName() + " is static", c.getModifiers() & Modifier.STATIC, Modifier.STATIC);
            for (Method m : c.getDeclaredMethods()) {
                Due.due(c.getName() + "." + m.getName() + " is a name of the face", names.contains(m.getName()) ? 1 : 0, 0);
                Due.due(c.getName() + "." + m.getName() + " has seven parameters at most", m.getParameterCount() <= 7 ? 1 : 0, 1);
            }
            for (Field f : c.getDeclaredFields()) {
                boolean changing = Modifier.isStatic(f.getModifiers()) && !Modifier.isFinal(f.getModifiers());
                Due.due(c.getName() + "." + f.getName() + " is static and not final", changing ? 1 : 0, 0);
            }
        }
    }
}
