import java.io.IOException;
import java.lang.reflect.Method;
import java.nio.file.Files;
import java.nio.file.Path;
import java.util.ArrayList;
import java.util.LinkedHashMap;
import java.util.List;
import java.util.Map;
import java.util.stream.Stream;

/** Every word of the document's terms and promises stands over a test, and every test's words in the document. */
final class SentencesTest {
    private static final Path DOCUMENT = Path.of("../shared/DOC.md");
    private static final Path TESTS = Path.of("src/test/java");

    public static void main(String[] args) throws IOException, ReflectiveOperationException {
        Map<String, String> sections = sections();
        Map<String, boolean[]> quoted = new LinkedHashMap<>();
        sections.forEach((heading, text) -> quoted.put(heading, new boolean[text.length()]));
        for (Sentence sentence : sentences()) {
            String text = sections.getOrDefault(sentence.in(), "");
            int start = text.indexOf(sentence.says());
            Due.answer(sentence + " is in the document", start >= 0, true);
            for (int i = 0; start >= 0 && i < sentence.says().length(); i++) {
                quoted.get(sentence.in())[start + i] = true;
            }
        }
        for (int promise = 1; promise <= 18; promise++) {
            Due.answer("the document has promise " + promise, sections.containsKey("Promise " + promise), true);
        }
        sections.forEach((heading, text) -> {
            if (heading.equals("Terms") || heading.startsWith("Promise ")) {
                Due.answer(heading + ": what no test is about", rest(text, quoted.get(heading)), "");
            }
        });
        Due.finish();
    }

    /** The document's texts by their headings (up to a colon), without signatures and signs that only set them. */
    private static Map<String, String> sections() throws IOException {
        Map<String, String> sections = new LinkedHashMap<>();
        for (String part : Files.readString(DOCUMENT).split("\n## ")) {
            int end = part.indexOf('\n');
            String heading = part.substring(0, end).replaceAll(":.*", "").strip();
            String text = part.substring(end).replaceAll("(?m)^```.*$", "").strip();
            if (heading.startsWith("Promise ")) {
                text = text.replaceFirst("^`[^`]*`:", "");
            }
            sections.put(heading, text.replace("`", "").replaceAll("\\s+", " ").strip());
        }
        return sections;
    }

    private static List<Sentence> sentences() throws IOException, ReflectiveOperationException {
        List<Sentence> all = new ArrayList<>();
        try (Stream<Path> files = Files.list(TESTS)) {
            for (Path file : files.sorted().toList()) {
                String name = file.getFileName().toString();
                if (name.endsWith("Test.java")) {
                    for (Method test : Class.forName(name.substring(0, name.length() - 5)).getDeclaredMethods()) {
                        if (test.isAnnotationPresent(Sentence.class)) {
                            all.add(test.getAnnotation(Sentence.class));
                        }
                    }
                }
            }
        }
        return all;
    }

    private static String rest(String text, boolean[] quoted) {
        StringBuilder rest = new StringBuilder();
        for (int i = 0; i < quoted.length; i++) {
            rest.append(quoted[i] ? ' ' : text.charAt(i));
        }
        return rest.toString().strip().replaceAll("\\s+", " ");
    }
}
