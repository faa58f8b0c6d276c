import java.lang.reflect.InvocationTargetException;
import java.lang.reflect.Method;
import java.lang.reflect.Modifier;
import java.nio.charset.StandardCharsets;
import java.util.Arrays;
import java.util.Comparator;

/** What the tests share. Each check stands under the sentence of the document that it is for. */
abstract class Checks {
    static final String PLACE = "IndexOutOfBoundsException";
    static final String ARGUMENT = "IllegalArgumentException";
    static final String STATE = "IllegalStateException";
    static final String UNTOLD = "UnsupportedOperationException";
    static final String EMPTY = "ArithmeticException";

    private static String sentence = "";
    private static int checks = 0;
    private static int wrong = 0;

    interface Call {
        Object answer();
    }

    /** Every static method that takes and returns nothing is a test. */
    static void runAll(Class<?> tests) {
        Method[] methods = tests.getDeclaredMethods();
        Arrays.sort(methods, Comparator.comparing(Method::getName));
        for (Method method : methods) {
            if (Modifier.isStatic(method.getModifiers()) && !method.isSynthetic()
                    && method.getParameterCount() == 0 && method.getReturnType() == void.class) {
                run(method);
            }
        }
        System.out.println(checks + " checks, " + wrong + " of them wrong");
        if (wrong != 0 || checks == 0) {
            System.exit(1);
        }
    }

    private static void run(Method method) {
        sentence = "";
        int before = checks;
        try {
            method.invoke(null);
        } catch (InvocationTargetException e) {
            wrong(method.getName() + " ended with " + e.getCause());
        } catch (IllegalAccessException e) {
            wrong(method.getName() + " cannot be called");
        }
        if (sentence.isEmpty() || checks == before) {
            wrong(method.getName() + " tests no sentence");
        }
    }

    /** Names what the next checks are for: the promise, then the document's words. */
    static void sentence(String words) {
        sentence = words;
    }

    static void due(Object want, Call call) {
        check("", want, answer(call));
    }

    /** The call is due to throw, and to change nothing. */
    static void refused(String want, Letterloom x, Call call) {
        kept(want, x, call);
    }

    /** A call with a number that it is due to refuse. */
    interface Asked {
        Object answer(int number);
    }

    static void noRow(Letterloom x, Asked call) {
        refusedOf(PLACE, x, call, -1, 6, Integer.MIN_VALUE, Integer.MAX_VALUE);
    }

    static void noKind(Letterloom x, Asked call) {
        refusedOf(ARGUMENT, x, call, -1, 3, Integer.MIN_VALUE, Integer.MAX_VALUE);
    }

    static void noByte(Letterloom x, Asked call) {
        refusedOf(ARGUMENT, x, call, -1, 256, Integer.MIN_VALUE, Integer.MAX_VALUE);
    }

    static void refusedOf(String want, Letterloom x, Asked call, int... numbers) {
        for (int number : numbers) {
            refused(want, x, () -> call.answer(number));
        }
    }

    /** The call is due to answer, and to change nothing. */
    static void kept(Object want, Letterloom x, Call call) {
        long before = x.checksum();
        check("", want, answer(call));
        check("the sum over all afterwards: ", before, x.checksum());
    }

    /** The first rows are due to be these, and the others empty. */
    static void rows(Letterloom x, String... wants) {
        for (int row = 0; row < 6; row++) {
            check("row " + row + ": ", row < wants.length ? wants[row] : "", text(x, row));
        }
    }

    static Object answer(Call call) {
        try {
            return call.answer();
        } catch (RuntimeException e) {
            return e.getClass().getSimpleName();
        }
    }

    private static void check(String what, Object want, Object got) {
        checks++;
        if (!want.equals(got)) {
            wrong(what + "answered " + got + ", due is " + want);
        }
    }

    private static void wrong(String what) {
        wrong++;
        System.out.println(place() + " (" + sentence + "): " + what);
    }

    private static String place() {
        for (StackTraceElement at : new Throwable().getStackTrace()) {
            String name = at.getClassName();
            if (!name.equals("Checks") && !name.contains(".")) {
                return name + ", line " + at.getLineNumber();
            }
        }
        return "";
    }

    static Letterloom with(String... rows) {
        Letterloom x = new Letterloom();
        for (int i = 0; i < rows.length; i++) {
            fill(x, i, rows[i]);
        }
        return x;
    }

    /** Adds eight bytes a call, since an object is used for at most 512 calls. */
    static void fill(Letterloom x, int row, String text) {
        x.remove(row, 0, x.length(row));
        byte[] bytes = text.getBytes(StandardCharsets.ISO_8859_1);
        int[] next = new int[8];
        for (int done = 0; done < bytes.length; done += 8) {
            int many = Math.min(8, bytes.length - done);
            for (int i = 0; i < many; i++) {
                next[i] = bytes[done + i] & 255;
            }
            addMore(x, row, many, next);
        }
    }

    static int addMore(Letterloom x, int row, int many, int... eight) {
        return x.addMore(row, many, eight[0], eight[1], eight[2], eight[3], eight[4], eight[5], eight[6], eight[7]);
    }

    static String text(Letterloom x, int row) {
        StringBuilder text = new StringBuilder();
        int length = x.length(row);
        for (int i = 0; i < length; i++) {
            text.append((char) x.get(row, i));
        }
        return text.toString();
    }

    static String times(String text, int many) {
        return text.repeat(many);
    }
}
