import java.io.IOException;
import java.lang.reflect.Constructor;
import java.lang.reflect.Field;
import java.lang.reflect.Method;
import java.lang.reflect.Modifier;
import java.nio.file.Files;
import java.nio.file.Path;
import java.util.Arrays;
import java.util.Set;
import java.util.TreeSet;
import java.util.regex.Matcher;
import java.util.regex.Pattern;

/** The document's face, and the rules of LANGUAGE.md that can be seen from outside or in the text. */
public final class FaceTest {
    private static final String[] FACE = {
        "int append(int, boolean, int, boolean, int) IllegalArgumentException IllegalStateException",
        "int build(int, int) IllegalArgumentException",
        "int cost()",
        "int depth()",
        "int digits(int) IllegalArgumentException",
        "long doubleReciprocal(int) IllegalArgumentException",
        "int drop() IllegalStateException",
        "int expected(int) IllegalArgumentException IllegalStateException",
        "int firstDoubleError(int) IllegalArgumentException",
        "int firstFloatError(int) IllegalArgumentException",
        "int firstWrong(int) IllegalArgumentException IllegalStateException",
        "int floatReciprocal(int) IllegalArgumentException",
        "int instructions()",
        "int inverse(int) IllegalArgumentException",
        "boolean isConstant(int, int) IndexOutOfBoundsException",
        "int leastRaise(int) IllegalArgumentException",
        "int listingChar(int) IndexOutOfBoundsException",
        "int multiplier(int) IllegalArgumentException",
        "int operand(int, int) IndexOutOfBoundsException",
        "int operation(int) IndexOutOfBoundsException",
        "int reach(int, int, int) IllegalArgumentException",
        "int result()",
        "int run(int) IllegalArgumentException",
        "int setCost(int, int) IndexOutOfBoundsException IllegalArgumentException",
        "int setResult(int) IndexOutOfBoundsException",
        "int setTask(int, int) IllegalArgumentException",
        "int setWidth(int) IllegalArgumentException",
        "int shift(int) IllegalArgumentException",
        "int signedMultiplier(int) IllegalArgumentException",
        "int tidy()",
        "int undo() IllegalStateException",
        "int valueOf(int, int) IllegalArgumentException IndexOutOfBoundsException",
        "int width()",
        "int wrong() IllegalStateException",
    };

    public static void main(String[] args) throws IOException {
        face();
        membersBesideTheFace();
        insideClasses();
        sourceText(Files.readString(Path.of("src/main/java/ConstantDivider.java")));
        Check.end();
    }

    private static String told(Method method) {
        StringBuilder text = new StringBuilder();
        text.append(method.getReturnType()).append(' ').append(method.getName()).append('(');
        text.append(String.join(", ", Arrays.stream(method.getParameterTypes()).map(Class::getName).toList()));
        text.append(')');
        for (Class<?> exception : method.getExceptionTypes()) {
            text.append(' ').append(exception.getSimpleName());
        }
        return text.toString();
    }

    private static void face() {
        Class<?> c = ConstantDivider.class;
        Check.due("the class is public and final", Modifier.toString(c.getModifiers()), "public final");
        Constructor<?>[] constructors = c.getDeclaredConstructors();
        Check.due("constructors", constructors.length, 1);
        Check.due("the constructor", constructors[0].toString(), "public ConstantDivider()");
        Set<String> methods = new TreeSet<>();
        for (Method method : c.getDeclaredMethods()) {
            if (Modifier.isPublic(method.getModifiers())) {
                methods.add(told(method));
            }
        }
        Check.due("the methods", methods.toString(), new TreeSet<>(Arrays.asList(FACE)).toString());
    }

    private static void membersBesideTheFace() {
        for (Method method : ConstantDivider.class.getDeclaredMethods()) {
            int modifiers = method.getModifiers();
            Check.due(method + " is public or private", Modifier.isPublic(modifiers) || Modifier.isPrivate(modifiers), true);
        }
        for (Field field : ConstantDivider.class.getDeclaredFields()) {
            Check.due(field + " is private", Modifier.isPrivate(field.getModifiers()), true);
        }
    }

    private static void insideClasses() {
        Set<String> faceNames = new TreeSet<>();
        for (String method : FACE) {
            faceNames.add(method.substring(method.indexOf(' ') + 1, method.indexOf('(')));
        }
        Class<?>[] inside = ConstantDivider.class.getDeclaredClasses();
        Check.due("at most 12 classes", inside.length <= 11, true);
        for (Class<?> c : inside) {
            Check.due(c + " is static", Modifier.isStatic(c.getModifiers()), true);
            Check.due(c + " is not public", Modifier.isPublic(c.getModifiers()), false);
            for (Method method : c.getDeclaredMethods()) {
                Check.due(method + " has a name of its own", faceNames.contains(method.getName()), false);
            }
            staticFieldsAreFinal(c);
        }
        for (Method method : ConstantDivider.class.getDeclaredMethods()) {
            boolean isPrivate = Modifier.isPrivate(method.getModifiers());
            Check.due(method + " has a name of its own", isPrivate && faceNames.contains(method.getName()), false);
            Check.due(method + " has at most 7 parameters", method.getParameterCount() <= 7, true);
        }
        staticFieldsAreFinal(ConstantDivider.class);
    }

    private static void staticFieldsAreFinal(Class<?> c) {
        int fields = 0;
        for (Field field : c.getDeclaredFields()) {
            if (Modifier.isStatic(field.getModifiers())) {
                Check.due(field + " is final", Modifier.isFinal(field.getModifiers()), true);
            } else {
                fields++;
            }
        }
        Check.due(c + " has at most 20 fields", fields <= 20, true);
    }

    private static void sourceText(String text) {
        String code = text.replaceAll("(?s)/\\*.*?\\*/", "").replaceAll("//[^\n]*", "").replaceAll("\"[^\"\n]*\"", "\"\"");
        // Some of these LANGUAGE.md allows; but without null and try nothing can be hidden by them.
        String[] never = {"\\bimport\\b", "\\bpackage\\b", "->", "::", "\\btry\\b", "\\bcatch\\b", "\\bfinally\\b",
            "\\bassert\\b", "\\bsynchronized\\b", "\\w+Exact\\b", "\\bFloat\\b", "\\bDouble\\b", "\\bSystem\\.(?!arraycopy)",
            "\\bRandom\\b", "\\bThread\\b", "\\bString\\.", "\\bObject\\b", "\\bnull\\b", "\\bprotected\\b",
            "\\bwhile\\s*\\(\\s*true", "\\bfor\\s*\\(\\s*;", "\\brecord\\b", "\\bnative\\b"};
        for (String pattern : never) {
            Matcher found = Pattern.compile(pattern).matcher(code);
            Check.due("the text has no " + pattern, found.find(), false);
        }
        Matcher math = Pattern.compile("\\b(Math|Integer|Long)\\.(\\w+)").matcher(code);
        Set<String> allowed = Set.of("min", "max", "abs", "floorDiv", "floorMod", "numberOfTrailingZeros");
        while (math.find()) {
            Check.due(math.group() + " is allowed", allowed.contains(math.group(2)), true);
        }
        Check.due("characters 1 to 127 alone", text.chars().allMatch(c -> c > 0 && c < 128), true);
        methodsAreShort(text);
    }

    /** Methods begin at four or eight blanks and end at a brace with as many. */
    private static void methodsAreShort(String text) {
        String[] lines = text.split("\n");
        for (int i = 0; i < lines.length; i++) {
            String indent = lines[i].startsWith("        ") ? "        " : "    ";
            if (lines[i].matches(" {4}( {4})?\\w[^=;]*\\(.*") && !lines[i].contains(" class ")) {
                int end = i;
                while (end < lines.length && !lines[end].equals(indent + "}")) {
                    end++;
                }
                boolean isMethod = !lines[i].matches(" *(if|for|while|switch|return|throw) .*");
                Check.due("short: " + lines[i].trim(), !isMethod || end - i <= 60, true);
            }
        }
    }
}
