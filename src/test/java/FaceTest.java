import java.lang.reflect.Constructor;
import java.lang.reflect.Field;
import java.lang.reflect.Method;
import java.lang.reflect.Modifier;
import java.util.Arrays;
import java.util.Set;
import java.util.TreeSet;

/** The public face of the document, and nothing else that can be seen. */
public final class FaceTest {
    private static final String[] FACE = {
        "int feed(int, int, int, int, int) throws []",
        "int text(int) throws [IllegalArgumentException]",
        "int fault() throws []",
        "int start(int) throws [IllegalArgumentException, IllegalStateException]",
        "int spend(int, int, int) throws [NoSuchElementException, IllegalArgumentException, IllegalStateException]",
        "int lost(int, int) throws [NoSuchElementException, IllegalArgumentException]",
        "int left(int, int, int) throws [NoSuchElementException, IllegalArgumentException]",
        "long close() throws [IllegalStateException]",
        "long sell(int, int) throws [NoSuchElementException, IllegalArgumentException, IllegalStateException]",
        "int undo() throws []",
        "int told(int) throws [IllegalArgumentException]",
        "int department(int, int) throws [NoSuchElementException, IllegalArgumentException]",
        "int product(int, int) throws [NoSuchElementException, IllegalArgumentException]",
        "long work(int, int) throws [NoSuchElementException, IllegalArgumentException]",
        "int units(int, int) throws [NoSuchElementException, IllegalArgumentException]",
        "int asDone(int, int, int) throws [NoSuchElementException, IllegalArgumentException]",
        "long cents(int, int, int) throws [NoSuchElementException, IllegalArgumentException]",
        "long loss(int, int) throws [NoSuchElementException, IllegalArgumentException]",
        "long other(int) throws [NoSuchElementException]",
        "long parted(int, int) throws [NoSuchElementException, IllegalArgumentException]",
        "long store(int, int) throws [NoSuchElementException, IllegalArgumentException]",
        "long layer(int, int, int) throws [NoSuchElementException, IllegalArgumentException]",
        "long account(int) throws [IllegalArgumentException]",
        "long plan(int, int) throws [IllegalArgumentException, NoSuchElementException]",
        "long print() throws []",
        "int status(int) throws []",
    };

    public static void main(String[] args) {
        Class<?> face = ProcessDesk.class;
        Check.same("public and final", true,
                Modifier.isPublic(face.getModifiers()) && Modifier.isFinal(face.getModifiers()));
        Check.same("NONE", -1, ProcessDesk.NONE);
        Set<String> names = methods(face);
        fields(face);
        constructors(face);
        for (Class<?> inside : face.getDeclaredClasses()) {
            Check.same(inside + " is static", true, Modifier.isStatic(inside.getModifiers()));
            Check.same(inside + " is hidden", false,
                    Modifier.isPublic(inside.getModifiers()) || Modifier.isProtected(inside.getModifiers()));
            for (Method method : inside.getDeclaredMethods()) {
                Check.same(method + " has a name of its own", false, names.contains(method.getName()));
            }
            Check.same(inside + " has some twenty fields", true, inside.getDeclaredFields().length <= 22);
        }
        Check.same("some twelve classes", true, face.getDeclaredClasses().length <= 12);
        Check.end("FaceTest");
    }

    private static Set<String> methods(Class<?> face) {
        Set<String> due = new TreeSet<>(Arrays.asList(FACE));
        Set<String> got = new TreeSet<>();
        Set<String> names = new TreeSet<>();
        for (Method method : face.getDeclaredMethods()) {
            if (!Modifier.isPrivate(method.getModifiers())) {
                got.add(told(method));
                names.add(method.getName());
            }
        }
        for (Method method : face.getDeclaredMethods()) {
            if (Modifier.isPrivate(method.getModifiers())) {
                Check.same(method + " has a name of its own", false, names.contains(method.getName()));
            }
        }
        Check.same("methods", due, got);
        return names;
    }

    private static String told(Method method) {
        StringBuilder told = new StringBuilder(method.getReturnType() + " " + method.getName() + "(");
        for (Class<?> type : method.getParameterTypes()) {
            told.append(told.charAt(told.length() - 1) == '(' ? "" : ", ").append(type);
        }
        told.append(") throws ");
        return told.append(Arrays.stream(method.getExceptionTypes()).map(Class::getSimpleName).toList()).toString();
    }

    private static void fields(Class<?> face) {
        for (Field field : face.getDeclaredFields()) {
            boolean hidden = Modifier.isPrivate(field.getModifiers());
            Check.same(field + " is hidden, but for NONE", !field.getName().equals("NONE"), hidden);
            if (Modifier.isStatic(field.getModifiers())) {
                Check.same(field + " is final", true, Modifier.isFinal(field.getModifiers()));
            }
        }
    }

    private static void constructors(Class<?> face) {
        Constructor<?>[] made = face.getDeclaredConstructors();
        Check.same("one constructor", 1, made.length);
        Check.same("it is public", true, Modifier.isPublic(made[0].getModifiers()));
        Check.same("it takes nothing", 0, made[0].getParameterCount());
    }
}
