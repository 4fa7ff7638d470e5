import java.io.IOException;
import java.lang.reflect.Method;
import java.lang.reflect.Modifier;
import java.nio.file.Files;
import java.nio.file.Path;
import java.util.List;
import java.util.regex.Matcher;
import java.util.regex.Pattern;
import java.util.stream.Collectors;
import java.util.stream.Stream;

/** README.md: its example answers as it says, and it leaves out no call, no class and no test. */
public final class ReadmeTests extends Check {
    private static final Path README = Path.of("README.md");
    private static final Path TESTS = Path.of("src/test/java");
    private static final Pattern PUT = Pattern.compile("put\\(border, \"([^\"]*)\"\\);");
    private static final Pattern CALL = Pattern.compile("border\\.(\\w+)\\(([^)]*)\\); +// (-?\\d+|true|false): .+");

    public static void main(String[] args) throws Exception {
        String readme = Files.readString(README);
        example(readme);
        putAsTold(readme);
        nothingLeftOut(readme);
        end();
    }

    private static String block(String readme, int number) {
        String[] parts = readme.split("```java\n");
        return parts.length > number ? parts[number].substring(0, parts[number].indexOf("```")) : "";
    }

    /** Each line of the example is a text, or a call with its answer. */
    private static void example(String readme) throws Exception {
        List<String> lines = block(readme, 1).lines().collect(Collectors.toList());
        due("first line", lines.isEmpty() ? "" : lines.get(0), "DreamDuty border = new DreamDuty();");
        DreamDuty border = new DreamDuty();
        int calls = 0;
        for (String line : lines.subList(Math.min(1, lines.size()), lines.size())) {
            Matcher put = PUT.matcher(line);
            Matcher call = CALL.matcher(line);
            if (put.matches()) {
                fill(border, put.group(1));
            } else if (call.matches()) {
                due("README: " + line, answer(border, call.group(1), call.group(2)), call.group(3));
                calls++;
            } else {
                due("a line that is neither: " + line, false, true);
            }
        }
        due("calls in the example", calls > 10, true);
    }

    private static String answer(DreamDuty border, String name, String told) throws Exception {
        String[] words = told.isEmpty() ? new String[0] : told.split(", ");
        for (Method method : DreamDuty.class.getMethods()) {
            if (!method.getName().equals(name) || method.getParameterCount() != words.length) continue;
            Object[] values = new Object[words.length];
            for (int i = 0; i < words.length; i++) {
                values[i] = method.getParameterTypes()[i] == boolean.class ? (Object) Boolean.valueOf(words[i]) : Integer.valueOf(words[i]);
            }
            return String.valueOf(method.invoke(border, values));
        }
        return "no such call";
    }

    /** As the README tells it: what fills up the last call stays. */
    static void fill(DreamDuty border, String text) {
        for (int i = 0; i < text.length(); i += 20) {
            int[] words = new int[5];
            for (int j = 0; j < 20; j++) {
                int sign = i + j < text.length() ? text.charAt(i + j) : ' ';
                words[j / 4] = words[j / 4] << 8 | sign;
            }
            border.feed(words[0], words[1], words[2], words[3], words[4]);
        }
    }

    /** The README's put is the fill that was run. */
    private static void putAsTold(String readme) throws IOException {
        String source = Files.readString(TESTS.resolve("ReadmeTests.java"));
        int from = source.indexOf("    static void fill(");
        int to = source.indexOf("\n    }\n", Math.max(0, from));
        String fill = from < 0 || to < 0 ? "" : source.substring(from, to + 7).replaceAll("(?m)^    ", "");
        due("put", block(readme, 2), fill.replace("void fill(", "void put("));
    }

    private static void nothingLeftOut(String readme) throws IOException {
        for (Method method : DreamDuty.class.getDeclaredMethods()) {
            if (Modifier.isPublic(method.getModifiers())) named(readme, method.getName());
        }
        for (Class<?> inside : DreamDuty.class.getDeclaredClasses()) named(readme, inside.getSimpleName());
        try (Stream<Path> tests = Files.list(TESTS)) {
            tests.forEach(test -> named(readme, test.getFileName().toString().replace(".java", "")));
        }
    }

    private static void named(String readme, String name) {
        due("README.md names " + name, readme.contains("`" + name + "`"), true);
    }
}
