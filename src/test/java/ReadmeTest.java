import java.io.IOException;
import java.lang.reflect.Method;
import java.lang.reflect.Modifier;
import java.nio.file.Files;
import java.nio.file.Path;
import java.util.regex.Matcher;
import java.util.regex.Pattern;

/** What README.md shows is what the class answers: a page that is read first must not be wrong. */
public final class ReadmeTest {
    private static final Check CHECK = new Check("ReadmeTest");
    /** A call of the example, and the number that its comment begins with. */
    private static final Pattern SHOWN = Pattern.compile("(?m)^office\\.(\\w+)\\((.*?)\\);\\s*// (-?\\d+)");
    private static final Pattern BLOCK = Pattern.compile("```(java|text)\n(.*?)```", Pattern.DOTALL);
    private static final Pattern LINE_OF_TEXT = Pattern.compile("(?m)^([^;\n]*;) {2,}");
    private static final Pattern ROW = Pattern.compile("(?m)^\\| `(\\w+)\\((.*?)\\)` \\|");

    private ReadmeTest() {
    }

    public static void main(String[] args) throws IOException, ReflectiveOperationException {
        String page = Files.readString(Path.of("README.md"));
        example(block(page, "java"));
        text(block(page, "text"));
        everyCallIsTold(page);
        CHECK.end();
    }

    private static String block(String page, String language) {
        Matcher matcher = BLOCK.matcher(page);
        while (matcher.find()) {
            if (matcher.group(1).equals(language)) {
                return matcher.group(2);
            }
        }
        return "";
    }

    private static void example(String code) throws ReflectiveOperationException {
        PayScales office = new PayScales();
        Matcher shown = SHOWN.matcher(code);
        int calls = 0;
        while (shown.find()) {
            String call = shown.group(1) + "(" + shown.group(2) + ")";
            CHECK.due(call, answer(office, shown.group(1), shown.group(2)), Long.parseLong(shown.group(3)));
            calls++;
        }
        CHECK.due("calls of the example that show their answer", calls, code.split("office\\.").length - 1);
    }

    private static long answer(PayScales office, String name, String numbers) throws ReflectiveOperationException {
        String[] words = numbers.isEmpty() ? new String[0] : numbers.split(", ");
        Object[] arguments = new Object[words.length];
        for (int i = 0; i < words.length; i++) {
            arguments[i] = Integer.decode(words[i]);
        }
        return ((Number) method(name).invoke(office, arguments)).longValue();
    }

    private static Method method(String name) throws NoSuchMethodException {
        for (Method method : PayScales.class.getMethods()) {
            if (method.getName().equals(name)) {
                return method;
            }
        }
        throw new NoSuchMethodException(name);
    }

    /** The lines are taken as one text, and say what stands beside them. */
    private static void text(String shown) {
        StringBuilder text = new StringBuilder();
        Matcher line = LINE_OF_TEXT.matcher(shown);
        while (line.find()) {
            text.append(line.group(1)).append('\n');
        }
        PayScales office = new PayScales();
        CHECK.due("agree of an earlier text", Texts.agree(office, "plus z = 1000;", 0), 0);
        CHECK.due("agree of the text shown", Texts.agree(office, text.toString(), 0), 1);
        CHECK.due("lines of both", office.count(4), 1 + shown.split("\n").length);
        office.post(0);
        office.note(0, 0, 0, 4);
        office.note(0, 1, 0, 1);
        office.note(0, 6, 0, 1);
        office.note(0, 6, 45, 0);
        CHECK.due("points", office.look(0, 30, 0, 9), 10);
        CHECK.due("grade", office.look(0, 30, 0, 10), 'g' - 'a');
        CHECK.due("step", office.look(0, 30, 0, 12), 1);
        CHECK.due("amount", office.look(0, 30, 0, 14), 100 * 320 + 100 * 25 + 10 * 320);
        CHECK.due("service behind 5 days without a post", office.look(0, 50, 0, 11), 45);
        CHECK.due("service behind 6 days without a post", office.look(0, 51, 0, 11), 0);
    }

    private static void everyCallIsTold(String page) {
        StringBuilder told = new StringBuilder(" ");
        Matcher row = ROW.matcher(page);
        while (row.find()) {
            int arguments = row.group(2).isEmpty() ? 0 : row.group(2).split(", ").length;
            told.append(row.group(1)).append('/').append(arguments).append(' ');
        }
        for (Method method : PayScales.class.getDeclaredMethods()) {
            if (Modifier.isPublic(method.getModifiers())) {
                String call = " " + method.getName() + "/" + method.getParameterCount() + " ";
                CHECK.holds("README.md tells of" + call, told.indexOf(call) >= 0);
            }
        }
    }
}
