import java.io.IOException;
import java.lang.reflect.Constructor;
import java.lang.reflect.Executable;
import java.lang.reflect.Field;
import java.lang.reflect.Method;
import java.lang.reflect.Modifier;
import java.nio.file.Files;
import java.nio.file.Path;
import java.util.ArrayList;
import java.util.List;
import java.util.regex.Matcher;
import java.util.regex.Pattern;

/** What of ../shared/LANGUAGE.md a look at the text can tell; the rest is read by eye. */
public final class LanguageTest {
    private static final Path SOURCE = Path.of("src/main/java/GatedLinks.java");
    private static final String[] NOT_THERE = {"->", "::", "\\bsynchronized\\b", "\\bassert\\b", "\\bfinally\\b",
        "\\btry\\b", "\\bstatic \\{", "\\bpackage\\b", "\\bvar\\b", "\\bequals\\b", "\\bhashCode\\b", "\\btoString\\b",
        "\\bSystem\\.(?!arraycopy)", "\\bThread\\b", "\\bRandom\\b", "Exact\\(", "\\bextends \\w*Exception",
        "\\bwhile \\(true\\)", "\\bfor \\(;;", "\\bprotected\\b"};
    private static final String EXCEPTIONS = "IllegalStateException|IllegalArgumentException|IndexOutOfBoundsException"
        + "|ArithmeticException|UnsupportedOperationException|NoSuchElementException|RuntimeException";
    private static final int MOST_LINES = 60;
    private static final int MOST_FIELDS = 20;
    private static final int MOST_PARAMETERS = 7;

    private static final Check CHECK = new Check("LanguageTest");

    public static void main(String[] args) throws IOException {
        CHECK.promise("the language");
        String text = Files.readString(SOURCE);
        String code = text.replaceAll("(?s)/\\*.*?\\*/", "").replaceAll("//[^\n]*", "");
        for (String word : NOT_THERE) {
            CHECK.no("it has " + word, Pattern.compile(word).matcher(code).find());
        }
        CHECK.yes("plain signs", text.chars().allMatch(c -> c == '\n' || c >= 32 && c < 127));
        imports(code);
        exceptions(code);
        classes(code);
        methods(code.split("\n"));
        List<Class<?>> all = new ArrayList<>(List.of(GatedLinks.class.getDeclaredClasses()));
        all.add(GatedLinks.class);
        for (Class<?> one : all) {
            fields(one);
            parameters(one);
        }
        CHECK.end();
    }

    private static void fields(Class<?> one) {
        int own = 0;
        for (Field field : one.getDeclaredFields()) {
            boolean isStatic = Modifier.isStatic(field.getModifiers());
            own += isStatic ? 0 : 1;
            CHECK.yes("rule 5, " + field, !isStatic || isConstant(field));
            CHECK.yes("rule 3, " + field, isAllowed(field.getType()));
        }
        CHECK.yes("rule 11, fields of " + one.getName(), own <= MOST_FIELDS);
    }

    private static boolean isConstant(Field field) {
        Class<?> type = field.getType();
        List<Class<?>> allowed = List.of(int.class, long.class, boolean.class, char.class, String.class, int[].class,
            long[].class, char[].class, byte[].class);
        return Modifier.isFinal(field.getModifiers()) && allowed.contains(type);
    }

    /** One dimension of anything of the class's own, two of numbers alone. */
    private static boolean isAllowed(Class<?> type) {
        if (!type.isArray()) {
            List<Class<?>> library =
                List.of(String.class, StringBuilder.class, Integer.class, List.class, ArrayList.class);
            return type.isPrimitive() || library.contains(type) || type.getName().startsWith("GatedLinks");
        }
        Class<?> part = type.getComponentType();
        if (part.isArray()) {
            return part.getComponentType().isPrimitive();
        }
        return part.isPrimitive() || part.getName().startsWith("GatedLinks");
    }

    private static void parameters(Class<?> one) {
        List<Executable> calls = new ArrayList<>(List.of(one.getDeclaredMethods()));
        for (Constructor<?> constructor : one.getDeclaredConstructors()) {
            calls.add(constructor);
        }
        for (Executable call : calls) {
            CHECK.yes("rule 11, " + call, call.getParameterCount() <= MOST_PARAMETERS);
            CHECK.no("rule 2, made by the compiler: " + call, call instanceof Method && call.isSynthetic());
        }
    }

    private static void imports(String code) {
        Matcher found = Pattern.compile("import ([^;]*);").matcher(code);
        List<String> allowed = List.of("java.util.NoSuchElementException", "java.util.ArrayList", "java.util.List",
            "java.util.Arrays", "java.util.Iterator");
        while (found.find()) {
            CHECK.yes("import of " + found.group(1), allowed.contains(found.group(1)));
        }
    }

    private static void exceptions(String code) {
        Matcher found = Pattern.compile("\\bthrow [^;]*;").matcher(code);
        String due = "throw new (" + EXCEPTIONS + ")\\((\"[^\"]*\")?\\);";
        while (found.find()) {
            CHECK.yes(found.group(), found.group().matches(due));
        }
    }

    private static void classes(String code) {
        Matcher found = Pattern.compile("(?m)^(.*)\\b(class|enum|interface|record) \\w+").matcher(code);
        int classes = 0;
        while (found.find()) {
            classes++;
            CHECK.yes(found.group(), classes == 1 || found.group().startsWith("    private static final class "));
        }
        CHECK.yes("at most twelve classes", classes <= 12);
    }

    /** A method begins at a line that ends with a brace behind a bracket, and ends at a brace as far in. */
    private static void methods(String[] lines) {
        Pattern start = Pattern.compile("^( {4}| {8})(?! )(?!if|for|while|switch|\\}).*\\).*\\{$");
        for (int i = 0; i < lines.length; i++) {
            Matcher found = start.matcher(lines[i]);
            if (found.matches()) {
                int end = i;
                while (!lines[end].equals(found.group(1) + "}")) {
                    end++;
                }
                CHECK.yes(lines[i].trim() + " is short", end - i < MOST_LINES);
            }
        }
    }
}
