import java.io.IOException;
import java.nio.file.Files;
import java.nio.file.Path;
import java.util.ArrayList;
import java.util.List;
import java.util.regex.Matcher;
import java.util.regex.Pattern;
import java.util.stream.Collectors;
import java.util.stream.Stream;

/** Each sentence of the document is told by a test as what it holds; and what a test tells stands there. */
public final class SentenceTests extends Check {
    private static final Path DOCUMENT = Path.of("../shared/DOC.md");
    private static final Path TESTS = Path.of("src/test/java");

    public static void main(String[] args) throws IOException {
        if (!Files.exists(DOCUMENT)) {
            System.out.println("no " + DOCUMENT + " here: nothing to hold the tests against");
            return;
        }
        String document = sentences(Files.readString(DOCUMENT));
        boolean[] told = new boolean[document.length()];
        List<String> all = saidByTests();
        due("there are such tests", all.size() > 100, true);
        for (String said : all) {
            int at = document.indexOf(said);
            due("the document says <" + said + ">", at >= 0, true);
            due("the document says it once only: <" + said + ">", document.lastIndexOf(said), at);
            for (int i = 0; at >= 0 && i < said.length(); i++) told[at + i] = true;
        }
        for (String left : untold(document, told)) due("a test of <" + left + ">", false, true);
        end();
    }

    // Headings, the face and signatures are no sentences.
    private static String sentences(String document) {
        int from = document.indexOf("An object is used for");
        int to = document.indexOf("## Not promised");
        return document.substring(Math.max(0, from), to < 0 ? document.length() : to)
                .replaceAll("(?m)^## .*$", " ").replaceAll("(?s)```java.*?```", " ").replaceAll("```(text)?", " ").replaceAll("`[^`]*`:", " ")
                .replaceAll("==== [IVX]+\\.", " ").replaceAll("\\s+", " ");
    }

    private static List<String> saidByTests() throws IOException {
        List<Path> files;
        try (Stream<Path> list = Files.list(TESTS)) {
            files = list.filter(f -> f.toString().endsWith("BoundaryTests.java")).sorted().collect(Collectors.toList());
        }
        List<String> said = new ArrayList<>();
        for (Path file : files) {
            Matcher call = Pattern.compile("\\bsays\\(((?:\\s*\\+?\\s*\"[^\"]*\")+)\\);").matcher(Files.readString(file));
            while (call.find()) {
                StringBuilder words = new StringBuilder();
                Matcher part = Pattern.compile("\"([^\"]*)\"").matcher(call.group(1));
                while (part.find()) words.append(part.group(1));
                said.add(words.toString());
            }
        }
        return said;
    }

    private static List<String> untold(String document, boolean[] told) {
        List<String> left = new ArrayList<>();
        StringBuilder run = new StringBuilder();
        for (int i = 0; i <= document.length(); i++) {
            if (i < document.length() && !told[i]) {
                run.append(document.charAt(i));
            } else {
                if (run.toString().matches("(?s).*[A-Za-z0-9].*")) left.add(run.toString().trim());
                run.setLength(0);
            }
        }
        return left;
    }
}
