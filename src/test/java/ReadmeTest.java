import java.io.IOException;
import java.lang.reflect.InvocationTargetException;
import java.lang.reflect.Method;
import java.lang.reflect.Modifier;
import java.nio.file.Files;
import java.nio.file.Path;
import java.util.ArrayList;
import java.util.List;
import java.util.regex.Matcher;
import java.util.regex.Pattern;

/**
 * README.md: the lines of its java blocks are called one behind another, and each answers what is written behind it
 * (the first word behind the two strokes: a number, true, false, or what it throws).
 */
public final class ReadmeTest {
    private static final Pattern CALL = Pattern.compile("bog\\.([a-z]+)\\((.*)\\);\\s*// (.*)");
    private static final Pattern TOLD_TEXT = Pattern.compile("tell\\(bog, \"(.*)\"\\);");
    private static final Pattern TOLD_BYTES = Pattern.compile("tell\\(bog, ([0-9, ]+)\\);");
    private static final String NEW = "TurfBog bog = new TurfBog();";

    private static TurfBog bog = new TurfBog();

    public static void main(String[] args) throws IOException {
        List<String> page = Files.readAllLines(Path.of("README.md"));
        List<String> lines = javaLines(page);
        Check.due("there are examples", lines.size() > 40, true);
        for (String line : lines) {
            follow(line);
        }
        namesEveryCall(String.join("\n", page));
        namesEveryTest(String.join("\n", page));
        Check.finish();
    }

    private static List<String> javaLines(List<String> page) {
        List<String> lines = new ArrayList<>();
        boolean within = false;
        for (String line : page) {
            if (line.startsWith("```")) {
                within = line.equals("```java");
            } else if (within && !line.isBlank()) {
                lines.add(line);
            }
        }
        return lines;
    }

    private static void follow(String line) {
        Matcher call = CALL.matcher(line);
        Matcher text = TOLD_TEXT.matcher(line);
        Matcher bytes = TOLD_BYTES.matcher(line);
        if (line.equals(NEW)) {
            bog = new TurfBog();
        } else if (text.matches()) {
            Check.put(bog, text.group(1));
        } else if (bytes.matches()) {
            Check.put(bog, numbers(bytes.group(1)));
        } else {
            Check.due("a line that can be followed: " + line, call.matches(), true);
            if (call.matches()) {
                String got = answer(call.group(1), call.group(2));
                // What answers nothing has words alone behind it.
                Check.due(line, got, got.isEmpty() ? "" : call.group(3).split("[ :]")[0]);
            }
        }
    }

    private static int[] numbers(String list) {
        String[] parts = list.split(", ");
        int[] found = new int[parts.length];
        for (int i = 0; i < parts.length; i++) {
            found[i] = Integer.decode(parts[i]);
        }
        return found;
    }

    private static String answer(String name, String list) {
        try {
            Object got = method(name).invoke(bog, values(list));
            return got == null ? "" : got.toString();
        } catch (InvocationTargetException e) {
            return e.getCause().getClass().getSimpleName();
        } catch (IllegalAccessException e) {
            return "cannot be called";
        }
    }

    private static Method method(String name) {
        for (Method method : TurfBog.class.getDeclaredMethods()) {
            if (method.getName().equals(name) && Modifier.isPublic(method.getModifiers())) {
                return method;
            }
        }
        throw new IllegalArgumentException("no such call: " + name);
    }

    private static Object[] values(String list) {
        if (list.isEmpty()) {
            return new Object[0];
        }
        String[] parts = list.split(", ");
        Object[] found = new Object[parts.length];
        for (int i = 0; i < parts.length; i++) {
            found[i] = value(parts[i]);
        }
        return found;
    }

    private static Object value(String part) {
        if (part.equals("true") || part.equals("false")) {
            return part.equals("true");
        }
        return part.equals("bog.open()") ? bog.open() : (Object) Integer.decode(part);
    }

    private static void namesEveryCall(String page) {
        String table = page.substring(page.indexOf("### All calls"));
        for (Method method : TurfBog.class.getDeclaredMethods()) {
            if (Modifier.isPublic(method.getModifiers())) {
                Check.due("the page names " + method.getName(), table.contains("`" + method.getName() + "`"), true);
            }
        }
    }

    private static void namesEveryTest(String page) throws IOException {
        try (var files = Files.list(Path.of("src/test/java"))) {
            for (Path file : (Iterable<Path>) files.sorted()::iterator) {
                String name = file.getFileName().toString().replace(".java", "");
                boolean isNamed = page.contains("| " + name + " |") || page.contains("`" + name);
                Check.due("the page names " + name, isNamed, true);
            }
        }
    }
}
