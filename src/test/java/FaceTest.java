import java.lang.reflect.Constructor;
import java.lang.reflect.Field;
import java.lang.reflect.Member;
import java.lang.reflect.Method;
import java.lang.reflect.Modifier;
import java.util.HashSet;
import java.util.Set;
import java.util.TreeSet;

/** The public face is the document's, to the letter, and nothing else can be seen of the class. */
public final class FaceTest {
    private static final String[] FACE = {
        "public int WholeDesk.write(int,long) throws java.lang.IllegalArgumentException",
        "public int WholeDesk.wipe()",
        "public void WholeDesk.read(int,int) throws java.lang.IllegalArgumentException,java.lang.IllegalStateException,java.lang.ArithmeticException",
        "public void WholeDesk.put(int,long) throws java.lang.IllegalArgumentException",
        "public void WholeDesk.add(int,int,int,boolean) throws java.lang.IllegalArgumentException,java.lang.ArithmeticException",
        "public void WholeDesk.multiply(int,int,int) throws java.lang.IllegalArgumentException,java.lang.ArithmeticException",
        "public void WholeDesk.divide(int,int,int,int) throws java.lang.IllegalArgumentException,java.lang.ArithmeticException",
        "public void WholeDesk.modulo(int,int,int) throws java.lang.IllegalArgumentException,java.lang.ArithmeticException",
        "public void WholeDesk.power(int,int,int) throws java.lang.IllegalArgumentException,java.lang.ArithmeticException",
        "public void WholeDesk.root(int,int,int) throws java.lang.IllegalArgumentException,java.lang.ArithmeticException",
        "public void WholeDesk.common(int,int,int) throws java.lang.IllegalArgumentException",
        "public void WholeDesk.inverse(int,int,int) throws java.lang.IllegalArgumentException,java.lang.ArithmeticException",
        "public void WholeDesk.powerModulo(int,int,int,int) throws java.lang.IllegalArgumentException,java.lang.ArithmeticException",
        "public void WholeDesk.combine(int,int,int,int) throws java.lang.IllegalArgumentException,java.lang.ArithmeticException",
        "public void WholeDesk.shift(int,int,int) throws java.lang.IllegalArgumentException,java.lang.ArithmeticException",
        "public int WholeDesk.bit(int,int) throws java.lang.IllegalArgumentException",
        "public int WholeDesk.compare(int,int) throws java.lang.IllegalArgumentException",
        "public long WholeDesk.told(int,int) throws java.lang.IllegalArgumentException",
        "public int WholeDesk.written(int,int) throws java.lang.IllegalArgumentException",
        "public long WholeDesk.text(int)",
    };

    private FaceTest() {
    }

    public static void main(String[] arguments) {
        Set<String> due = new TreeSet<>(Set.of(FACE));
        Set<String> seen = new TreeSet<>();
        Set<String> publicNames = new HashSet<>();
        for (Method method : WholeDesk.class.getDeclaredMethods()) {
            if (!hidden(method)) {
                seen.add(method.toGenericString());
                publicNames.add(method.getName());
            }
        }
        Check.same("the methods", seen, due);
        for (Class<?> inside : WholeDesk.class.getDeclaredClasses()) {
            Check.that(inside + " is static", Modifier.isStatic(inside.getModifiers()));
            Check.that(inside + " is not public", !Modifier.isPublic(inside.getModifiers()));
            noneNamedAs(publicNames, inside);
        }
        for (Field field : WholeDesk.class.getDeclaredFields()) {
            Check.that(field + " is hidden", hidden(field) || field.toString().equals("public static final int WholeDesk.NONE"));
        }
        for (Constructor<?> constructor : WholeDesk.class.getDeclaredConstructors()) {
            Check.same("the constructor", constructor.toGenericString(), "public WholeDesk()");
        }
        Check.that("public and final", WholeDesk.class.getModifiers() == (Modifier.PUBLIC | Modifier.FINAL));
        for (Method method : WholeDesk.class.getDeclaredMethods()) {
            Check.that(method + " bears a public name", !hidden(method) || !publicNames.contains(method.getName()));
        }
        Check.end("FaceTest");
    }

    private static void noneNamedAs(Set<String> publicNames, Class<?> inside) {
        for (Method method : inside.getDeclaredMethods()) {
            Check.that(method + " bears a public name", !publicNames.contains(method.getName()));
        }
    }

    private static boolean hidden(Member member) {
        return Modifier.isPrivate(member.getModifiers());
    }
}
