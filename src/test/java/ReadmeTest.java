import java.io.IOException;
import java.lang.reflect.InvocationTargetException;
import java.lang.reflect.Method;
import java.lang.reflect.Modifier;
import java.nio.file.Files;
import java.nio.file.Path;
import java.util.List;
import java.util.regex.Matcher;
import java.util.regex.Pattern;

/** What README.md tells of the class holds. It is found from the project's directory. */
public final class ReadmeTest extends Checks {
    private static final Pattern CALL = Pattern.compile("loom\\.(\\w+)\\((.*)\\); *// (.*)");
    private static final Pattern ROW = Pattern.compile("row (\\d) is \"(.*)\"");

    private static List<String> readme() {
        try {
            return Files.readAllLines(Path.of("README.md"));
        } catch (IOException e) {
            throw new IllegalStateException("README.md is looked for in the project's directory", e);
        }
    }

    private static Method methodOf(String name) {
        for (Method method : Letterloom.class.getDeclaredMethods()) {
            if (method.getName().equals(name) && Modifier.isPublic(method.getModifiers())) {
                return method;
            }
        }
        throw new IllegalStateException("there is no method " + name);
    }

    private static Object valueOf(String argument) {
        if (argument.startsWith("'")) {
            return (int) argument.charAt(1);
        }
        if (argument.equals("true") || argument.equals("false")) {
            return Boolean.valueOf(argument);
        }
        return Integer.valueOf(argument);
    }

    private static Object[] valuesOf(String arguments) {
        String[] parts = arguments.isEmpty() ? new String[0] : arguments.split(", ");
        Object[] values = new Object[parts.length];
        for (int i = 0; i < parts.length; i++) {
            values[i] = valueOf(parts[i]);
        }
        return values;
    }

    private static String answerOf(Letterloom x, String name, String arguments) {
        try {
            return String.valueOf(methodOf(name).invoke(x, valuesOf(arguments)));
        } catch (InvocationTargetException e) {
            return "throws " + e.getCause().getClass().getSimpleName();
        } catch (IllegalAccessException e) {
            throw new IllegalStateException(e);
        }
    }

    static void example() {
        sentence("README.md: each call of the example answers what is told beside it");
        Letterloom x = new Letterloom();
        int calls = 0;
        for (String line : readme()) {
            Matcher call = CALL.matcher(line);
            if (call.matches()) {
                calls++;
                String told = call.group(3);
                String got = answerOf(x, call.group(1), call.group(2));
                due(line + " " + told.split(":")[0], () -> line + " " + got);
                Matcher row = ROW.matcher(told);
                if (row.find()) {
                    String text = text(x, Integer.parseInt(row.group(1)));
                    due(line + " " + row.group(2), () -> line + " " + text);
                }
            }
        }
        int all = calls;
        due(true, () -> all > 0);
    }

    static void calls() {
        sentence("README.md: each call of the face is told, with its parameters");
        String page = String.join("\n", readme());
        for (Method method : Letterloom.class.getDeclaredMethods()) {
            if (Modifier.isPublic(method.getModifiers())) {
                Matcher told = Pattern.compile("\\| `" + method.getName() + "\\((.*)\\)` \\|").matcher(page);
                int many = !told.find() ? -1 : told.group(1).isEmpty() ? 0 : told.group(1).split(", ").length;
                due(method.getName() + " " + method.getParameterCount(), () -> method.getName() + " " + many);
            }
        }
    }

    public static void main(String[] args) {
        runAll(ReadmeTest.class);
    }
}
