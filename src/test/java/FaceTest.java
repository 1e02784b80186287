import java.lang.reflect.Constructor;
import java.lang.reflect.Field;
import java.lang.reflect.Method;
import java.lang.reflect.Modifier;
import java.util.ArrayList;
import java.util.Arrays;
import java.util.Collections;
import java.util.List;
import java.util.Set;
import java.util.TreeSet;

/** The public face of the document, and what rules 1, 2, 3 and 5 of the language ask of the class's members. */
public final class FaceTest {
    private static final String[] FACE = {
        "int make(int, int) IllegalArgumentException IllegalStateException",
        "int read() IllegalArgumentException IllegalStateException",
        "int add(int, int) IndexOutOfBoundsException IllegalArgumentException IllegalStateException",
        "int put(int, int, int) IndexOutOfBoundsException IllegalArgumentException",
        "int take(int, int) IndexOutOfBoundsException IllegalStateException",
        "int turn(int) IndexOutOfBoundsException",
        "int join(int, int) IndexOutOfBoundsException IllegalArgumentException IllegalStateException",
        "int cut(int, int) IndexOutOfBoundsException IllegalStateException",
        "int pass(int) IllegalArgumentException IllegalStateException",
        "int breakVow(int) IndexOutOfBoundsException",
        "int ask(int, int, int) IndexOutOfBoundsException IllegalArgumentException",
        "int set(int, int) IndexOutOfBoundsException IllegalArgumentException",
        "int append(int) IllegalArgumentException IllegalStateException",
        "int clearBuffer()",
        "int firstError()",
        "int undo() IllegalStateException",
        "int block(int, int) IndexOutOfBoundsException IllegalArgumentException",
        "int value(int, int) IndexOutOfBoundsException",
        "int count(int) IllegalArgumentException",
        "int setting(int) IndexOutOfBoundsException",
        "int cost(int, int) IndexOutOfBoundsException IllegalArgumentException",
        "int work(int, int, int, int) IndexOutOfBoundsException IllegalArgumentException",
        "int regretIn(int, int) IndexOutOfBoundsException IllegalArgumentException",
        "int gain(int) IndexOutOfBoundsException",
        "int cheapest(int, int) IndexOutOfBoundsException",
        "int mate(int) IndexOutOfBoundsException",
        "double meanBits()",
        "long digest()",
    };

    private static final Check check = new Check("FaceTest");

    public static void main(String[] args) throws Exception {
        Class<?> face = VowBlocks.class;
        check.holds("the class is public and final",
                Modifier.isPublic(face.getModifiers()) && Modifier.isFinal(face.getModifiers()));
        check.same("NONE", VowBlocks.NONE, -1);
        methods(face);
        fields(face);
        constructors(face);
        for (Class<?> inner : face.getDeclaredClasses()) {
            inner(inner, names(face));
        }
        check.finish();
    }

    private static Set<String> names(Class<?> face) {
        Set<String> names = new TreeSet<>();
        for (Method m : face.getDeclaredMethods()) {
            if (Modifier.isPublic(m.getModifiers())) {
                names.add(m.getName());
            }
        }
        return names;
    }

    private static void methods(Class<?> face) {
        List<String> got = new ArrayList<>();
        for (Method m : face.getDeclaredMethods()) {
            if (Modifier.isPublic(m.getModifiers())) {
                got.add(told(m));
                check.holds(m + " is of an object", !Modifier.isStatic(m.getModifiers()));
            } else {
                check.holds(m + " is private", Modifier.isPrivate(m.getModifiers()));
                check.holds(m + " has a name of its own", !names(face).contains(m.getName()));
            }
            check.holds(m + " has at most 7 parameters", m.getParameterCount() <= 7);
        }
        List<String> due = new ArrayList<>(Arrays.asList(FACE));
        Collections.sort(got);
        Collections.sort(due);
        check.holds("the face is " + got, got.equals(due));
    }

    private static String told(Method m) {
        StringBuilder text = new StringBuilder(m.getReturnType() + " " + m.getName() + "(");
        for (Class<?> type : m.getParameterTypes()) {
            text.append(text.charAt(text.length() - 1) == '(' ? "" : ", ").append(type);
        }
        text.append(")");
        for (Class<?> type : m.getExceptionTypes()) {
            text.append(" ").append(type.getSimpleName());
        }
        return text.toString();
    }

    private static void fields(Class<?> face) {
        for (Field f : face.getDeclaredFields()) {
            boolean constant = f.getName().equals("NONE");
            int due = Modifier.PUBLIC | Modifier.STATIC | Modifier.FINAL;
            check.holds(f + " is public only if it is NONE",
                    constant ? f.getModifiers() == due : Modifier.isPrivate(f.getModifiers()));
            check.holds(f + ", if static, is final",
                    !Modifier.isStatic(f.getModifiers()) || Modifier.isFinal(f.getModifiers()));
        }
    }

    private static void constructors(Class<?> face) {
        Constructor<?>[] all = face.getDeclaredConstructors();
        check.same("constructors", all.length, 1);
        check.holds("the constructor is public, without parameters and exceptions", Modifier.isPublic(all[0].getModifiers())
                && all[0].getParameterCount() == 0 && all[0].getExceptionTypes().length == 0);
    }

    private static void inner(Class<?> inner, Set<String> taken) {
        check.holds(inner + " is static and not public or protected", Modifier.isStatic(inner.getModifiers())
                && !Modifier.isPublic(inner.getModifiers()) && !Modifier.isProtected(inner.getModifiers()));
        for (Method m : inner.getDeclaredMethods()) {
            check.holds(m + " has a name of its own", !taken.contains(m.getName()));
        }
        for (Field f : inner.getDeclaredFields()) {
            check.holds(f + ", if static, is final",
                    !Modifier.isStatic(f.getModifiers()) || Modifier.isFinal(f.getModifiers()));
        }
    }
}
