import java.lang.reflect.Constructor;
import java.lang.reflect.Field;
import java.lang.reflect.Method;
import java.lang.reflect.Modifier;
import java.util.Arrays;
import java.util.HashSet;
import java.util.Set;
import java.util.TreeSet;

/** The class has the document's face, with its exceptions, and nothing else to be seen from outside. */
public final class FaceTest {
    private static final String[] FACE = {
        "int add(int,int) IndexOutOfBoundsException,IllegalArgumentException,IllegalStateException",
        "int addMore(int,int,int,int,int,int,int,int,int,int)"
                + " IndexOutOfBoundsException,IllegalArgumentException,IllegalStateException",
        "int put(int,int,int) IndexOutOfBoundsException,IllegalArgumentException",
        "int insert(int,int,int) IndexOutOfBoundsException,IllegalArgumentException,IllegalStateException",
        "int remove(int,int,int) IndexOutOfBoundsException",
        "int length(int) IndexOutOfBoundsException",
        "int get(int,int) IndexOutOfBoundsException",
        "int copy(int,int) IndexOutOfBoundsException",
        "boolean isLike(int,int) IndexOutOfBoundsException",
        "int write(int,int,int,boolean) IndexOutOfBoundsException,IllegalArgumentException,IllegalStateException",
        "int writeText(int,int,int,boolean) IndexOutOfBoundsException,IllegalArgumentException,IllegalStateException",
        "int read(int,int,int) IndexOutOfBoundsException,IllegalArgumentException,UnsupportedOperationException",
        "int look(int,int) IndexOutOfBoundsException,IllegalArgumentException",
        "int letters(int,int) IndexOutOfBoundsException,IllegalArgumentException",
        "boolean isWritten(int,int) IndexOutOfBoundsException,IllegalArgumentException",
        "int plain(int,int) IndexOutOfBoundsException,IllegalArgumentException,"
                + "UnsupportedOperationException,IllegalStateException",
        "float letterShare(int,int) IndexOutOfBoundsException,IllegalArgumentException,ArithmeticException",
        "double growth(int,int) IndexOutOfBoundsException,IllegalArgumentException,ArithmeticException",
        "long checksum() ",
        "boolean isTrue() ",
    };

    private static int wrong = 0;

    private static void due(String what, boolean holds) {
        if (!holds) {
            wrong++;
            System.out.println("not as due: " + what);
        }
    }

    private static String names(Class<?>[] types) {
        StringBuilder text = new StringBuilder();
        for (Class<?> type : types) {
            text.append(text.length() == 0 ? "" : ",").append(type.getSimpleName());
        }
        return text.toString();
    }

    private static String line(Method method) {
        return method.getReturnType().getSimpleName() + " " + method.getName()
                + "(" + names(method.getParameterTypes()) + ") " + names(method.getExceptionTypes());
    }

    private static void publicMethods() {
        Set<String> seen = new TreeSet<>();
        Set<String> names = new HashSet<>();
        for (Method method : Letterloom.class.getDeclaredMethods()) {
            if (Modifier.isPublic(method.getModifiers())) {
                due(method.getName() + " is not static", !Modifier.isStatic(method.getModifiers()));
                seen.add(line(method));
                names.add(method.getName());
            }
        }
        Set<String> face = new TreeSet<>(Arrays.asList(FACE));
        for (String due : face) {
            due("there is " + due, seen.contains(due));
        }
        for (String got : seen) {
            due("the document has " + got, face.contains(got));
        }
        hiddenMethods(Letterloom.class, names);
        for (Class<?> inner : Letterloom.class.getDeclaredClasses()) {
            due(inner + " is not public", !Modifier.isPublic(inner.getModifiers()));
            due(inner + " is static", Modifier.isStatic(inner.getModifiers()));
            hiddenMethods(inner, names);
        }
    }

    private static void hiddenMethods(Class<?> type, Set<String> names) {
        for (Method method : type.getDeclaredMethods()) {
            if (type == Letterloom.class) {
                int modifiers = method.getModifiers();
                due(method + " is public or private", Modifier.isPublic(modifiers) || Modifier.isPrivate(modifiers));
            }
            if (type != Letterloom.class || Modifier.isPrivate(method.getModifiers())) {
                due(method + " bears a name of its own", !names.contains(method.getName()));
                due(method + " takes at most seven parameters", method.getParameterCount() <= 7);
            }
        }
    }

    private static void fieldsAndConstructors() {
        for (Field field : Letterloom.class.getDeclaredFields()) {
            due(field + " is private", Modifier.isPrivate(field.getModifiers()));
            boolean isStatic = Modifier.isStatic(field.getModifiers());
            due(field + " is final if static", !isStatic || Modifier.isFinal(field.getModifiers()));
        }
        Constructor<?>[] all = Letterloom.class.getDeclaredConstructors();
        due("there is one constructor", all.length == 1);
        due("it is public", Modifier.isPublic(all[0].getModifiers()));
        due("it takes nothing", all[0].getParameterCount() == 0);
        due("the class is final", Modifier.isFinal(Letterloom.class.getModifiers()));
    }

    public static void main(String[] args) {
        publicMethods();
        fieldsAndConstructors();
        System.out.println(wrong == 0 ? "the face is as due" : wrong + " things are not as due");
        if (wrong != 0) {
            System.exit(1);
        }
    }
}
