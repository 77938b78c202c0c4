import java.io.IOException;
import java.lang.reflect.Field;
import java.lang.reflect.Method;
import java.lang.reflect.Modifier;
import java.nio.file.Files;
import java.nio.file.Path;
import java.util.List;
import java.util.regex.Matcher;
import java.util.regex.Pattern;

/**
 * What the program's text and its compiled classes can tell of ../shared/LANGUAGE.md;
 * it is run from the project's folder.
 */
public final class LanguageTest {
    private static final Path SOURCE = Path.of("src/main/java/WholeDesk.java");
    private static final int MOST_LINES = 60;
    private static final int MOST_CLASSES = 12;
    private static final int MOST_FIELDS = 20;
    private static final int MOST_PARAMETERS = 7;
    private static final String[] NOT_ALLOWED = {"\\bimport\\b", "\\bpackage\\b", "\\btry\\b", "\\bcatch\\b", "\\bfinally\\b",
        "->", "::", "Exact\\b", "\\bsynchronized\\b", "\\bassert\\b", "\\bprotected\\b", "\\bSystem\\.(?!arraycopy\\b)",
        "\\bThread\\b", "\\bObject\\b", "\\b(?:Integer|Long)\\.(?!bitCount\\b)", "\\bMath\\.(?!max\\b|min\\b)", "\\bstatic \\{",
        "\\bextends\\b", "\\bimplements\\b", "\\bdouble\\b", "\\bfloat\\b", "\\bnull\\b", "\\bnew (?!Whole\\b|Reckoner\\b|Draft\\b"
        + "|Writing\\b|byte\\b|long\\b|IllegalArgumentException\\b|IllegalStateException\\b|ArithmeticException\\b)"};

    private LanguageTest() {
    }

    public static void main(String[] arguments) throws IOException {
        String code = Files.readString(SOURCE).replaceAll("(?s)/\\*.*?\\*/", "").replaceAll("//[^\n]*", "");
        String bare = code.replaceAll("\"[^\"\n]*\"", "\"\"");
        for (String pattern : NOT_ALLOWED) {
            Matcher matcher = Pattern.compile(pattern).matcher(bare);
            Check.that("the program has " + pattern, !matcher.find());
        }
        Matcher fields = Pattern.compile("\\bstatic (?!final\\b)[^({]*[;=]").matcher(bare);
        Check.that("a static field is not final", !fields.find());
        Check.that("too many classes", bare.split("\\bclass\\b").length - 1 <= MOST_CLASSES);
        methodsAreShort(Files.readAllLines(SOURCE));
        classIsSmall(WholeDesk.class);
        for (Class<?> inside : WholeDesk.class.getDeclaredClasses()) {
            classIsSmall(inside);
        }
        Check.end("LanguageTest");
    }

    /** A method's lines are those from its head to the brace that stands as far in as the head. */
    private static void methodsAreShort(List<String> lines) {
        Pattern head = Pattern.compile("^( {4}| {8})(?! )(?!.*\\bclass\\b)[^/*=]*\\(.*");
        for (int i = 0; i < lines.size(); i++) {
            Matcher matcher = head.matcher(lines.get(i));
            if (matcher.matches()) {
                int end = i;
                while (end < lines.size() && !lines.get(end).equals(matcher.group(1) + "}")) {
                    end++;
                }
                Check.that("a method is long: " + lines.get(i), end - i < MOST_LINES);
            }
        }
    }

    private static void classIsSmall(Class<?> one) {
        int fields = 0;
        for (Field field : one.getDeclaredFields()) {
            boolean ofClass = Modifier.isStatic(field.getModifiers());
            Check.that(field + " is static state", !ofClass || isConstant(field));
            fields += ofClass ? 0 : 1;
        }
        Check.that(one + " has " + fields + " fields", fields <= MOST_FIELDS);
        for (Method method : one.getDeclaredMethods()) {
            Check.that(method + " has too many parameters", method.getParameterCount() <= MOST_PARAMETERS);
        }
    }

    /** Of the kinds that rule 5 allows, those that the program uses. */
    private static boolean isConstant(Field field) {
        boolean number = field.getType() == int.class || field.getType() == long.class;
        return number && Modifier.isFinal(field.getModifiers());
    }
}
