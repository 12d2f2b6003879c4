import java.io.IOException;
import java.lang.reflect.Constructor;
import java.lang.reflect.Field;
import java.lang.reflect.Method;
import java.lang.reflect.Modifier;
import java.nio.file.Files;
import java.nio.file.Path;
import java.util.Arrays;
import java.util.Set;
import java.util.TreeSet;
import java.util.regex.Matcher;
import java.util.regex.Pattern;

/** The public face, and those rules of the language that can be seen from names and words. */
public final class FaceTest {
    private static final Set<String> FACE = Set.of("int feed(int, int, int, int, int)", "int agree(int, int)",
        "int fault(int)", "int pass(int)", "int post(int)", "int note(int, int, int, int)", "int look(int, int, int, int)",
        "long pay(int, int, int)", "long due(int, int, int)", "int run()", "long payment(int, int)", "long paid(int, int)",
        "long cost(int, int, int)", "int like(int, int, int)", "int pair(int, int)", "int meet(int, int)",
        "int met(int, int)", "int count(int)");
    private static final String[] NOT_ALLOWED = {"throw", "throws", "try", "catch", "finally", "synchronized", "assert",
        "volatile", "native", "transient", "var", "package", "Object", "Exception", "HashMap", "equals", "hashCode",
        "->", "::"};
    private static final Pattern LITERALS = Pattern.compile("\"[^\"]*\"|'[^']*'|/\\*.*?\\*/|//[^\n]*", Pattern.DOTALL);

    private FaceTest() {
    }

    public static void main(String[] args) throws IOException {
        Check check = new Check("FaceTest");
        face(check);
        members(check);
        words(check, Path.of("src/main/java/PayScales.java"));
        check.end();
    }

    private static void face(Check check) {
        check.holds("the class is public and final", Modifier.isPublic(PayScales.class.getModifiers())
            && Modifier.isFinal(PayScales.class.getModifiers()));
        check.due("NONE", PayScales.NONE, -1);
        Set<String> found = new TreeSet<>();
        for (Method method : PayScales.class.getDeclaredMethods()) {
            if (Modifier.isPublic(method.getModifiers())) {
                String types = Arrays.toString(method.getParameterTypes());
                found.add(method.getReturnType() + " " + method.getName() + "(" + types.substring(1, types.length() - 1) + ")");
            }
        }
        check.holds("the public methods are the document's: " + found, found.equals(FACE));
        Constructor<?>[] constructors = PayScales.class.getDeclaredConstructors();
        check.holds("one public constructor without arguments", constructors.length == 1
            && constructors[0].getParameterCount() == 0 && Modifier.isPublic(constructors[0].getModifiers()));
    }

    private static void members(Check check) {
        Set<String> names = new TreeSet<>();
        for (Method method : PayScales.class.getDeclaredMethods()) {
            check.holds(method + " is public or private", (method.getModifiers() & (Modifier.PUBLIC | Modifier.PRIVATE)) != 0);
            check.holds(method.getName() + " names one method", names.add(method.getName()));
        }
        for (Field field : PayScales.class.getDeclaredFields()) {
            boolean constant = field.getName().equals("NONE");
            check.holds(field + " is private", constant || Modifier.isPrivate(field.getModifiers()));
        }
        for (Class<?> inside : PayScales.class.getDeclaredClasses()) {
            check.holds(inside + " is static and private", Modifier.isStatic(inside.getModifiers())
                && Modifier.isPrivate(inside.getModifiers()));
            check.holds(inside + " has some twenty fields", constantsAside(inside) <= 20);
            for (Method method : inside.getDeclaredMethods()) {
                check.holds(method + " takes at most seven", method.getParameterCount() <= 7);
            }
        }
        check.holds("some twenty fields", constantsAside(PayScales.class) <= 20);
        check.holds("at most some twelve classes", PayScales.class.getDeclaredClasses().length < 12);
    }

    private static int constantsAside(Class<?> of) {
        int fields = 0;
        for (Field field : of.getDeclaredFields()) {
            boolean constant = Modifier.isStatic(field.getModifiers());
            check(constant, field);
            fields += constant ? 0 : 1;
        }
        return fields;
    }

    private static void check(boolean constant, Field field) {
        if (constant && !Modifier.isFinal(field.getModifiers())) {
            throw new IllegalStateException(field + " is static, but not final");
        }
    }

    private static void words(Check check, Path source) throws IOException {
        String code = LITERALS.matcher(Files.readString(source)).replaceAll(" ");
        for (String word : NOT_ALLOWED) {
            String edge = Character.isLetter(word.charAt(0)) ? "\\b" : "";
            Matcher matcher = Pattern.compile(edge + Pattern.quote(word) + edge).matcher(code);
            check.holds("the source has no " + word, !matcher.find());
        }
    }
}
