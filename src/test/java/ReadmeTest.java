import java.io.File;
import java.io.IOException;
import java.lang.reflect.InvocationTargetException;
import java.lang.reflect.Method;
import java.lang.reflect.Modifier;
import java.nio.file.Files;
import java.nio.file.Path;
import java.util.List;
import java.util.Set;
import java.util.TreeSet;
import java.util.regex.Matcher;
import java.util.regex.Pattern;

/** Reads README.md, makes the calls of its examples, and looks whether they answer what stands behind them. */
public final class ReadmeTest {
    private static final String NEW_OBJECT = "ConstantDivider x = new ConstantDivider();";
    private static final Pattern CALL = Pattern.compile("x\\.(\\w+)\\((.*)\\); +// (throws \\w+|-?\\w+)(:.*)?");

    private final Set<String> called = new TreeSet<>();
    private ConstantDivider x = new ConstantDivider();

    public static void main(String[] args) throws IOException, IllegalAccessException {
        ReadmeTest test = new ReadmeTest();
        String page = Files.readString(Path.of("README.md"));
        test.examples(page.lines().toList());
        test.everyCall(page);
        everyTest(page);
        Check.end();
    }

    private void examples(List<String> lines) throws IllegalAccessException {
        String block = "";
        StringBuilder listing = new StringBuilder();
        for (String line : lines) {
            if (line.startsWith("```")) {
                if (block.equals("text")) {
                    Check.due("the listing in README.md", Check.listing(x), listing.toString());
                    listing.setLength(0);
                }
                block = line.substring(3);
            } else if (block.equals("java")) {
                example(line);
            } else if (block.equals("text")) {
                listing.append(line).append('\n');
            }
        }
    }

    private void example(String line) throws IllegalAccessException {
        if (line.equals(NEW_OBJECT)) {
            x = new ConstantDivider();
            return;
        }
        Matcher parts = CALL.matcher(line);
        if (!parts.matches()) {
            Check.report("README.md has a line that is no call with its answer: " + line);
            return;
        }
        called.add(parts.group(1));
        Check.due(line, answer(parts.group(1), parts.group(2).split(", ")), parts.group(3));
    }

    private String answer(String name, String[] arguments) throws IllegalAccessException {
        for (Method method : ConstantDivider.class.getDeclaredMethods()) {
            if (method.getName().equals(name) && Modifier.isPublic(method.getModifiers())) {
                try {
                    return String.valueOf(method.invoke(x, read(method.getParameterTypes(), arguments)));
                } catch (InvocationTargetException e) {
                    return "throws " + e.getCause().getClass().getSimpleName();
                }
            }
        }
        return "no such call";
    }

    private static Object[] read(Class<?>[] types, String[] arguments) {
        Object[] values = new Object[types.length];
        for (int i = 0; i < values.length; i++) {
            if (types[i] == boolean.class) {
                values[i] = Boolean.parseBoolean(arguments[i]);
            } else {
                values[i] = Integer.parseInt(arguments[i]);
            }
        }
        return values;
    }

    private void everyCall(String page) {
        for (Method method : ConstantDivider.class.getDeclaredMethods()) {
            if (Modifier.isPublic(method.getModifiers())) {
                Check.due("README.md calls " + method.getName(), called.contains(method.getName()), true);
            }
        }
        Check.due("README.md makes objects", page.contains(NEW_OBJECT), true);
    }

    private static void everyTest(String page) {
        for (String file : new File("src/test/java").list()) {
            if (file.endsWith("Test.java")) {
                String test = file.substring(0, file.length() - ".java".length());
                Check.due("README.md has a row for " + test, page.contains("\n| " + test + " |"), true);
            }
        }
    }
}
