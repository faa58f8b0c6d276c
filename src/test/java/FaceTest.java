import java.lang.reflect.Constructor;
import java.lang.reflect.Field;
import java.lang.reflect.Method;
import java.lang.reflect.Modifier;
import java.util.Arrays;
import java.util.HashSet;
import java.util.Set;
import java.util.TreeSet;

/** The class has the document's face, with its exceptions, and nothing else to be seen from outside. */
public final class FaceTest extends Checks {
    private static final String[] FACE = {
        "int add(int,int) IndexOutOfBoundsException,IllegalArgumentException,IllegalStateException",
        "int addMore(int,int,int,int,int,int,int,int,int,int)"
                + " IndexOutOfBoundsException,IllegalArgumentException,IllegalStateException",
        "int put(int,int,int) IndexOutOfBoundsException,IllegalArgumentException",
        "int insert(int,int,int) IndexOutOfBoundsException,IllegalArgumentException,IllegalStateException",
        "int remove(int,int,int) IndexOutOfBoundsException",
        "int length(int) IndexOutOfBoundsException",
        "int get(int,int) IndexOutOfBoundsException",
        "int copy(int,int) IndexOutOfBoundsException",
        "boolean isLike(int,int) IndexOutOfBoundsException",
        "int write(int,int,int,boolean) IndexOutOfBoundsException,IllegalArgumentException,IllegalStateException",
        "int writeText(int,int,int,boolean) IndexOutOfBoundsException,IllegalArgumentException,IllegalStateException",
        "int read(int,int,int) IndexOutOfBoundsException,IllegalArgumentException,UnsupportedOperationException",
        "int look(int,int) IndexOutOfBoundsException,IllegalArgumentException",
        "int letters(int,int) IndexOutOfBoundsException,IllegalArgumentException",
        "boolean isWritten(int,int) IndexOutOfBoundsException,IllegalArgumentException",
        "int plain(int,int) IndexOutOfBoundsException,IllegalArgumentException,"
                + "UnsupportedOperationException,IllegalStateException",
        "float letterShare(int,int) IndexOutOfBoundsException,IllegalArgumentException,ArithmeticException",
        "double growth(int,int) IndexOutOfBoundsException,IllegalArgumentException,ArithmeticException",
        "long checksum() ",
        "boolean isTrue() ",
    };

    private static void holds(String what, boolean holds) {
        due(what + ": " + true, () -> what + ": " + holds);
    }

    private static String names(Class<?>[] types) {
        StringBuilder text = new StringBuilder();
        for (Class<?> type : types) {
            text.append(text.length() == 0 ? "" : ",").append(type.getSimpleName());
        }
        return text.toString();
    }

    private static String line(Method method) {
        return method.getReturnType().getSimpleName() + " " + method.getName()
                + "(" + names(method.getParameterTypes()) + ") " + names(method.getExceptionTypes());
    }

    static void publicMethods() {
        sentence("The public face: its methods, with their exceptions, and no others");
        Set<String> seen = new TreeSet<>();
        Set<String> names = new HashSet<>();
        for (Method method : Letterloom.class.getDeclaredMethods()) {
            if (Modifier.isPublic(method.getModifiers())) {
                holds(method.getName() + " is not static", !Modifier.isStatic(method.getModifiers()));
                seen.add(line(method));
                names.add(method.getName());
            }
        }
        Set<String> face = new TreeSet<>(Arrays.asList(FACE));
        for (String wanted : face) {
            holds("there is " + wanted, seen.contains(wanted));
        }
        for (String got : seen) {
            holds("the document has " + got, face.contains(got));
        }
        hiddenMethods(Letterloom.class, names);
        for (Class<?> inner : Letterloom.class.getDeclaredClasses()) {
            holds(inner + " is not public", !Modifier.isPublic(inner.getModifiers()));
            holds(inner + " is static", Modifier.isStatic(inner.getModifiers()));
            hiddenMethods(inner, names);
        }
    }

    private static void hiddenMethods(Class<?> type, Set<String> names) {
        for (Method method : type.getDeclaredMethods()) {
            if (type == Letterloom.class) {
                int modifiers = method.getModifiers();
                holds(method + " is public or private", Modifier.isPublic(modifiers) || Modifier.isPrivate(modifiers));
            }
            if (type != Letterloom.class || Modifier.isPrivate(method.getModifiers())) {
                holds(method + " bears a name of its own", !names.contains(method.getName()));
                holds(method + " takes at most seven parameters", method.getParameterCount() <= 7);
            }
        }
    }

    static void fieldsAndConstructors() {
        sentence("The public face: a final class with one constructor, and no field that can be seen");
        for (Field field : Letterloom.class.getDeclaredFields()) {
            holds(field + " is private", Modifier.isPrivate(field.getModifiers()));
            boolean isStatic = Modifier.isStatic(field.getModifiers());
            holds(field + " is final if static", !isStatic || Modifier.isFinal(field.getModifiers()));
        }
        Constructor<?>[] all = Letterloom.class.getDeclaredConstructors();
        holds("there is one constructor", all.length == 1);
        holds("it is public", Modifier.isPublic(all[0].getModifiers()));
        holds("it takes nothing", all[0].getParameterCount() == 0);
        holds("the class is final", Modifier.isFinal(Letterloom.class.getModifiers()));
    }

    public static void main(String[] args) {
        runAll(FaceTest.class);
    }
}
