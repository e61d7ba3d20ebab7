import java.io.IOException;
import java.lang.reflect.Field;
import java.lang.reflect.Method;
import java.nio.file.Files;
import java.nio.file.Path;
import java.util.ArrayList;
import java.util.Arrays;
import java.util.HashSet;
import java.util.List;
import java.util.Set;
import java.util.regex.Matcher;
import java.util.regex.Pattern;

/** README.md: its examples are one run of calls, each with its answer; each public member has one. */
public final class ReadmeTest {
    private static final String NEW_OBJECT = "FactFinder x = new FactFinder();";
    private static final Pattern CALL =
            Pattern.compile("x\\.(\\w+)\\(([-0-9, ]*)\\);\\s+// (-?\\d+|NONE|BAD|FULL)(:? .*)?");
    private static final Pattern MEMBER = Pattern.compile("\\bpublic ((?:int )?(\\w+)\\([^)]*\\));");
    private static final int MOST_CALLS = 512;

    private final Due due = new Due();
    private final Set<String> shown = new HashSet<>();
    private FactFinder x;
    private int calls;

    public static void main(String[] args) throws ReflectiveOperationException, IOException {
        Path root = Path.of(args[0]).toAbsolutePath().getParent().getParent().getParent().getParent();
        String text = Files.readString(root.resolve("README.md"));
        ReadmeTest test = new ReadmeTest();
        for (String line : examples(text)) {
            test.example(line);
        }
        test.members(text, Files.readString(root.resolve("../shared/DOC.md")));
        test.constants(text);
        test.due.isTrue("it says how the tests are run", text.contains(".ci/run"));
        test.due.end();
    }

    /** The lines of the parts that are marked as Java. */
    private static List<String> examples(String text) {
        List<String> lines = new ArrayList<>();
        boolean inside = false;
        for (String line : text.split("\n")) {
            if (line.startsWith("```")) {
                inside = line.equals("```java");
            } else if (inside) {
                lines.add(line);
            }
        }
        return lines;
    }

    private void example(String line) throws ReflectiveOperationException {
        if (line.equals(NEW_OBJECT)) {
            x = new FactFinder();
            shown.add("FactFinder");
            calls = 0;
            return;
        }
        Matcher call = CALL.matcher(line);
        if (!call.matches() || x == null) {
            due.isTrue("an example with its answer: " + line, false);
            return;
        }
        int[] numbers = numbers(call.group(2));
        due.is(line, answer(call.group(3)), ask(call.group(1), numbers));
        shown.add(call.group(1));
        shown.add(call.group(3));
        calls++;
        due.isTrue("no more than 512 calls", calls <= MOST_CALLS);
    }

    private static int[] numbers(String text) {
        return text.isBlank() ? new int[0]
                : Arrays.stream(text.split(",")).map(String::trim).mapToInt(Integer::parseInt).toArray();
    }

    private int ask(String name, int[] numbers) throws ReflectiveOperationException {
        Class<?>[] types = new Class<?>[numbers.length];
        Arrays.fill(types, int.class);
        Method method = FactFinder.class.getMethod(name, types);
        return (int) method.invoke(x, Arrays.stream(numbers).boxed().toArray());
    }

    private static int answer(String text) throws ReflectiveOperationException {
        return Character.isUpperCase(text.charAt(0)) ? FactFinder.class.getField(text).getInt(null)
                : Integer.parseInt(text);
    }

    /** The members as the document's face writes them, so that they are named as it names them. */
    private void members(String text, String document) {
        Matcher member = MEMBER.matcher(document);
        int many = 0;
        while (member.find()) {
            many++;
            due.isTrue(member.group(1) + " is told", text.contains("`" + member.group(1) + "`"));
            due.isTrue(member.group(1) + " has an example", shown.contains(member.group(2)));
        }
        due.isTrue("the document's face has methods", many > 0);
    }

    private void constants(String text) throws IllegalAccessException {
        for (Field field : FactFinder.class.getFields()) {
            String row = "`FactFinder." + field.getName() + "` | " + field.getInt(null) + " |";
            due.isTrue(field + " is told", text.contains(row));
            due.isTrue(field + " has an example", shown.contains(field.getName()));
        }
    }
}
