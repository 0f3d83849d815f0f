import java.lang.reflect.Method;
import java.lang.reflect.Modifier;
import java.nio.charset.StandardCharsets;
import java.nio.file.Files;
import java.nio.file.Path;
import java.util.Set;
import java.util.TreeSet;
import java.util.regex.Matcher;
import java.util.regex.Pattern;

/**
 * The calls that README.md shows, in their order, with the answers that it gives for them: each line of its Java blocks
 * is the making of the object, or a call with its answer behind it.
 */
public final class ReadmeTest {
    private static final Check CHECK = new Check("ReadmeTest");
    private static final Pattern BLOCK = Pattern.compile("(?ms)^```java\\n(.*?)^```$");
    private static final String MAKING = "SelfLaw law = new SelfLaw();";
    private static final Pattern CALL = Pattern.compile("law\\.(?<name>\\w+)\\((?<values>[^()]*)\\); +"
            + "// (?<answer>-?\\d+|[A-Z]+)(?:: (?<note>.+))?");
    /** What stands first in the note of a write. */
    private static final Pattern TEXT = Pattern.compile("\"([^\"]*)\".*");
    private static final Pattern CONSTANT = Pattern.compile("`([A-Z]+)` \\((-?\\d+)\\)");
    private static final int MOST_CALLS = 512;

    private SelfLaw law;
    private int calls;
    private final Set<String> shown = new TreeSet<>();

    public static void main(String[] args) throws Exception {
        String page = Files.readString(Path.of("README.md"));
        ReadmeTest test = new ReadmeTest();
        Matcher blocks = BLOCK.matcher(page);
        while (blocks.find()) {
            for (String line : blocks.group(1).split("\n")) {
                test.line(line);
            }
        }
        test.everyCallIsShown();
        constants(page);
        testsAreListed(page);
        CHECK.end();
    }

    private static void isTrue(String what, boolean is) {
        CHECK.due(what, is ? 1 : 0, 1);
    }

    private void line(String line) throws Exception {
        if (line.equals(MAKING)) {
            law = new SelfLaw();
            calls = 0;
            return;
        }
        Matcher call = CALL.matcher(line);
        boolean readable = call.matches() && law != null;
        isTrue("a call with its answer: " + line, readable);
        if (!readable) {
            return;
        }
        calls++;
        isTrue("an object is good for so many calls: " + line, calls <= MOST_CALLS);
        shown.add(call.group("name"));
        String[] values = call.group("values").isEmpty() ? new String[0] : call.group("values").split(", ");
        CHECK.due(line, answer(call.group("name"), values), number(call.group("answer")));
        if (call.group("name").equals("write")) {
            Matcher text = TEXT.matcher(call.group("note") == null ? "" : call.group("note"));
            isTrue("the text that is written: " + line, text.matches() && isText(text.group(1), values));
        }
    }

    private int answer(String name, String[] values) throws Exception {
        for (Method method : SelfLaw.class.getMethods()) {
            Class<?>[] types = method.getParameterTypes();
            if (method.getName().equals(name) && types.length == values.length) {
                Object[] given = new Object[values.length];
                for (int i = 0; i < values.length; i++) {
                    given[i] = value(types[i], values[i]);
                }
                return (int) method.invoke(law, given);
            }
        }
        throw new IllegalStateException("README.md shows a call that there is not: " + name);
    }

    private static Object value(Class<?> type, String value) {
        if (type == boolean.class && (value.equals("true") || value.equals("false"))) {
            return value.equals("true");
        }
        if (type == long.class && value.endsWith("L")) {
            return Long.decode(value.substring(0, value.length() - 1));
        }
        return Integer.decode(value);
    }

    /** An answer: a number, or the name of a constant. */
    private static int number(String answer) throws Exception {
        boolean isName = Character.isLetter(answer.charAt(0));
        return isName ? SelfLaw.class.getField(answer).getInt(null) : Integer.parseInt(answer);
    }

    private static boolean isText(String text, String[] values) {
        long v = 0;
        for (byte one : text.getBytes(StandardCharsets.ISO_8859_1)) {
            v = v << 8 | one & 255;
        }
        return values[0].equals("" + text.length()) && v == (long) value(long.class, values[1]);
    }

    private void everyCallIsShown() {
        for (Method method : SelfLaw.class.getDeclaredMethods()) {
            boolean ofFace = Modifier.isPublic(method.getModifiers());
            isTrue("README.md shows " + method.getName(), !ofFace || shown.contains(method.getName()));
        }
    }

    private static void constants(String page) throws Exception {
        Set<String> told = new TreeSet<>();
        Matcher constants = CONSTANT.matcher(page);
        while (constants.find()) {
            told.add(constants.group(1));
            CHECK.due(constants.group(), number(constants.group(1)), Integer.parseInt(constants.group(2)));
        }
        isTrue("all constants: " + told, told.equals(Set.of("UNKNOWN", "BAD", "LATE", "FULL", "NONE")));
    }

    /** What README.md says of the tests names each of them. */
    private static void testsAreListed(String page) throws Exception {
        try (var files = Files.list(Path.of("src/test/java"))) {
            for (Path file : files.sorted().toList()) {
                String name = file.getFileName().toString().replace(".java", "");
                isTrue("README.md names " + name, !name.endsWith("Test") || page.contains("`" + name + "`"));
            }
        }
    }
}
