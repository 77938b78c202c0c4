import java.io.IOException;
import java.lang.reflect.InvocationTargetException;
import java.lang.reflect.Method;
import java.lang.reflect.Modifier;
import java.math.BigInteger;
import java.nio.file.Files;
import java.nio.file.Path;
import java.util.ArrayList;
import java.util.List;
import java.util.Set;
import java.util.TreeSet;
import java.util.regex.Matcher;
import java.util.regex.Pattern;

/** The calls that README.md shows do what the comments behind them say; run from the project's folder. */
public final class ReadmeTest {
    private static final Path FILE = Path.of("README.md");
    private static final Pattern EXAMPLE = Pattern.compile("(?s)```java\n(.*?)```");
    private static final Pattern MADE = Pattern.compile("WholeDesk desk = new WholeDesk\\(\\);(?:\\s*// (.*))?");
    private static final Pattern CALL = Pattern.compile("desk\\.(\\w+)\\(([^()]*)\\);(?:\\s*// (.*))?");
    private static final Pattern CLAIM = Pattern.compile(
            "answers (?<answer>\\S+)|throws (?<thrown>\\w+)|register (?<register>\\d) has (?<number>-?\\d+)"
            + "|the draft is \"(?<draft>[^\"]*)\"|the text is \"(?<text>[^\"]*)\"");

    /** The calls so far: looking at a number or at the draft changes the desk, so each look has one of its own. */
    private final List<String[]> calls = new ArrayList<>();
    private final Set<String> shown = new TreeSet<>();
    private Object answer = null;
    private String thrown = null;

    private ReadmeTest() {
    }

    public static void main(String[] arguments) throws IOException {
        Matcher examples = EXAMPLE.matcher(Files.readString(FILE));
        ReadmeTest readme = new ReadmeTest();
        int found = 0;
        while (examples.find()) {
            found++;
            for (String line : examples.group(1).split("\n")) {
                readme.test(line.trim());
            }
        }
        Check.that(FILE + " has no example", found > 0);
        Check.same("the calls that " + FILE + " shows", readme.shown, face());
        Check.end("ReadmeTest");
    }

    private static Set<String> face() {
        Set<String> names = new TreeSet<>();
        for (Method method : WholeDesk.class.getDeclaredMethods()) {
            if (Modifier.isPublic(method.getModifiers())) {
                names.add(method.getName());
            }
        }
        return names;
    }

    private void test(String line) {
        Matcher made = MADE.matcher(line);
        Matcher call = CALL.matcher(line);
        if (made.matches()) {
            calls.clear();
            testClaims(line, made.group(1));
        } else if (call.matches()) {
            shown.add(call.group(1));
            calls.add(new String[] {call.group(1), call.group(2)});
            testClaims(line, call.group(3));
        } else {
            Check.that("a line that is no call: " + line, line.isEmpty() || line.startsWith("// "));
        }
    }

    private void testClaims(String line, String claims) {
        replayed(line);
        boolean throwing = false;
        for (String one : claims == null ? new String[0] : claims.split("; ")) {
            Matcher claim = CLAIM.matcher(one);
            if (claim.matches()) {
                throwing = throwing || claim.group("thrown") != null;
                testClaim(line, claim);
            } else {
                Check.that("nothing that can be tested, \"" + one + "\" in: " + line, false);
            }
        }
        Check.that("it throws " + thrown + ": " + line, throwing || thrown == null);
        Check.that("nothing is said of: " + line, claims != null);
    }

    private void testClaim(String line, Matcher claim) {
        Desk desk = replayed(line);
        if (claim.group("answer") != null) {
            Check.same(line, answer, number(claim.group("answer")));
        } else if (claim.group("thrown") != null) {
            Check.same(line, thrown, claim.group("thrown"));
        } else if (claim.group("register") != null) {
            Check.same(line, desk.get(Integer.parseInt(claim.group("register"))), new BigInteger(claim.group("number")));
        } else if (claim.group("draft") != null) {
            draftIs(line, desk, claim.group("draft"));
        } else {
            textIs(line, desk, claim.group("text"));
        }
        Check.that("too many calls", calls.size() + desk.calls <= Desk.CALLS);
    }

    private static void draftIs(String line, Desk desk, String due) {
        if (!due.isEmpty()) {
            Check.answers(line, desk.desk.write(1, '0'), due.length() + 1);
            desk.desk.read(0, 36);
            Check.same(line, desk.get(0), new BigInteger(due + "0", 36));
        }
        Check.answers(line, desk.desk.wipe(), 0);
    }

    private static void textIs(String line, Desk desk, String due) {
        for (int from = -8; from <= due.length(); from += 8) {
            Check.answers(line, desk.desk.text(from), Desk.packed(due, from));
        }
        Check.answers(line, desk.desk.text(due.length()), 0);
    }

    /** A desk on which all calls so far were made; what the last one answered or threw is kept. */
    private Desk replayed(String line) {
        Desk desk = new Desk();
        answer = null;
        thrown = null;
        for (String[] call : calls) {
            try {
                thrown = null;
                answer = made(desk.desk, call[0], call[1].isEmpty() ? new String[0] : call[1].split(", *"));
            } catch (InvocationTargetException refused) {
                answer = null;
                thrown = refused.getCause().getClass().getSimpleName();
            } catch (ReflectiveOperationException none) {
                Check.that("there is no such call: " + line, false);
            }
        }
        return desk;
    }

    /** Whole numbers of any kind are answered as a Long. */
    private static Object made(WholeDesk desk, String name, String[] arguments) throws ReflectiveOperationException {
        for (Method method : WholeDesk.class.getMethods()) {
            Class<?>[] types = method.getParameterTypes();
            if (method.getName().equals(name) && types.length == arguments.length) {
                Object[] values = new Object[types.length];
                for (int i = 0; i < types.length; i++) {
                    values[i] = value(types[i], arguments[i]);
                }
                Object answer = method.invoke(desk, values);
                return answer instanceof Number number ? (Object) number.longValue() : answer;
            }
        }
        throw new NoSuchMethodException(name);
    }

    private static Object value(Class<?> type, String text) {
        if (type == boolean.class) {
            return Boolean.valueOf(text);
        }
        long number = number(text);
        return type == int.class ? (Object) Math.toIntExact(number) : (Object) number;
    }

    private static long number(String text) {
        return text.equals("NONE") ? WholeDesk.NONE : Long.decode(text.replaceFirst("L$", ""));
    }
}
