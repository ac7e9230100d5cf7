import java.lang.reflect.Constructor;
import java.lang.reflect.Field;
import java.lang.reflect.Method;
import java.lang.reflect.Modifier;
import java.util.Arrays;
import java.util.HashSet;
import java.util.Set;
import java.util.TreeSet;
import java.util.stream.Collectors;

/** The public face of the document, and no other member that can be seen from outside. */
public final class FaceTest {
    private static final String[] METHODS = {
        "int begin(int)", "int field(int,int,int,int,int)", "int period(int,int)", "int done(int,int)",
        "int law(int,int,int,int)", "int act()", "int step(int,int,int,int,int)", "int bare(int)",
        "int handler(int,int)", "int locks(int)", "int code(int)", "int op(int,int,int)", "int same(int,int)",
        "int power()", "int event(int,int,int)", "int run(int)", "int read(int)", "int write(int,int)",
        "int wait(int)", "int peek(int,int)", "int shadow(int)", "int result()", "int breaks(int)",
        "int walk(int,int)", "int why(int)", "int tape(int,int,int)", "int image(int)", "int back(int)",
        "int toss(int)", "int play(int,int,int)", "int clear(int)", "int put(int,int,long)", "long at(int,int)",
        "int copy(int,int,int,int,int)", "int count(int)",
    };
    private static final String[] CONSTANTS = {
        "NONE", "OVERLAP", "FULL", "KIND", "TIMEOUT", "LATE", "UNABLE", "NOTHING", "CAST", "PLACE", "SIZE", "THROWN",
    };
    private static final int[] NUMBERS = {-1, -2, -3, -4, -5, -6, -7, -11, -12, -13, -14, -15};
    private static final Due due = new Due();

    public static void main(String[] args) throws ReflectiveOperationException {
        Class<?> face = DriverBook.class;
        due.is("public and final", face.getModifiers(), Modifier.PUBLIC | Modifier.FINAL);
        methods(face);
        constants(face);
        constructors(face);
        classesInside(face);
        due.end("FaceTest");
    }

    private static void sameNames(String what, Set<String> got, Set<String> want) {
        due.is(what + " got " + got + ", due " + want, got.equals(want) ? 1 : 0, 1);
    }

    private static void methods(Class<?> face) {
        Set<String> open = new TreeSet<>();
        Set<String> openNames = new HashSet<>();
        Set<String> closed = new TreeSet<>();
        for (Method m : face.getDeclaredMethods()) {
            if (Modifier.isPrivate(m.getModifiers())) {
                closed.add(m.getName());
                continue;
            }
            due.is(m.getName() + " is public and no more", m.getModifiers(), Modifier.PUBLIC);
            String parameters = Arrays.stream(m.getParameterTypes()).map(Class::getName).collect(Collectors.joining(","));
            open.add(m.getReturnType().getName() + " " + m.getName() + "(" + parameters + ")");
            openNames.add(m.getName());
        }
        sameNames("methods", open, new TreeSet<>(Arrays.asList(METHODS)));
        for (Class<?> inside : face.getDeclaredClasses()) {
            for (Method m : inside.getDeclaredMethods()) {
                closed.add(m.getName());
            }
        }
        closed.retainAll(openNames);
        sameNames("other methods that bear a public one's name", closed, new TreeSet<>());
    }

    private static void constants(Class<?> face) throws ReflectiveOperationException {
        Set<String> open = new TreeSet<>();
        for (int k = 0; k < CONSTANTS.length; k++) {
            due.is(CONSTANTS[k], face.getField(CONSTANTS[k]).getInt(null), NUMBERS[k]);
        }
        for (Field f : face.getDeclaredFields()) {
            finalIfStatic(f);
            if (!Modifier.isPrivate(f.getModifiers())) {
                due.is(f.getName() + " is a public constant", f.getModifiers(), Modifier.PUBLIC | Modifier.STATIC | Modifier.FINAL);
                due.is(f.getName() + " is an int", f.getType() == int.class ? 1 : 0, 1);
                open.add(f.getName());
            }
        }
        sameNames("constants", open, new TreeSet<>(Arrays.asList(CONSTANTS)));
    }

    private static void constructors(Class<?> face) {
        Constructor<?>[] all = face.getDeclaredConstructors();
        due.is("constructors", all.length, 1);
        due.is("its parameters", all[0].getParameterCount(), 0);
        due.is("it is public", all[0].getModifiers(), Modifier.PUBLIC);
    }

    private static void classesInside(Class<?> face) {
        for (Class<?> c : face.getDeclaredClasses()) {
            int m = c.getModifiers();
            due.is(c + " is static and not open", Modifier.isStatic(m) && !Modifier.isPublic(m) && !Modifier.isProtected(m) ? 1 : 0, 1);
            int own = 0;
            for (Field f : c.getDeclaredFields()) {
                own += Modifier.isStatic(f.getModifiers()) ? 0 : 1;
                finalIfStatic(f);
            }
            due.is(c + " has some twenty fields at the most", own <= 20 ? 1 : 0, 1);
        }
        due.is("some twelve classes at the most", face.getDeclaredClasses().length <= 12 ? 1 : 0, 1);
    }

    /** Static fields are final, and of a type whose constants LANGUAGE.md allows. */
    private static void finalIfStatic(Field f) {
        if (Modifier.isStatic(f.getModifiers())) {
            due.is(f + " is final", Modifier.isFinal(f.getModifiers()) ? 1 : 0, 1);
            due.is(f + " is a number", f.getType() == int.class || f.getType() == long.class ? 1 : 0, 1);
        }
    }
}
