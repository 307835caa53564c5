import java.io.IOException;
import java.nio.file.Files;
import java.nio.file.Path;
import java.util.LinkedHashMap;
import java.util.Map;
import java.util.regex.Matcher;
import java.util.regex.Pattern;

/** What README.md says that the calls of its examples answer is what they answer. */
final class ReadmeTest {
    /** An example's line: a call, and the answer that a comment begins with. */
    private static final Pattern EXAMPLE = Pattern.compile("(?m)^(\\w+\\.\\w+\\(.*\\)); *// (-?\\d+|true|false)\\b.*$");

    private static String readme;
    /** For each call its answers in the order of the page; a call may stand there more than once. */
    private static final Map<String, StringBuilder> SAID = new LinkedHashMap<>();
    private static final Map<String, StringBuilder> GIVEN = new LinkedHashMap<>();

    public static void main(String[] args) throws IOException {
        readme = Files.readString(Path.of("README.md"));
        Matcher example = EXAMPLE.matcher(readme);
        while (example.find()) {
            note(SAID, example.group(1), example.group(2));
        }
        game();
        study();
        Due.answer("the examples' answers", GIVEN.toString(), SAID.toString());
        everyCallIsTold();
        Due.finish();
    }

    private static void note(Map<String, StringBuilder> answers, String call, Object answer) {
        answers.computeIfAbsent(call, c -> new StringBuilder()).append(answer).append(' ');
    }

    private static void given(String call, Object answer) {
        note(GIVEN, call, answer);
    }

    /** A line of an example that answers nothing. */
    private static void told(String line) {
        Due.answer("README.md has " + line, readme.contains("\n" + line), true);
    }

    private static void game() {
        told("MoveList game = new MoveList();");
        MoveList game = new MoveList();
        told("game.begin();");
        game.begin();
        given("game.count()", game.count());
        given("game.move(0)", game.move(0));
        given("game.place(12 + 64 * 28)", game.place(12 + 64 * 28));
        given("game.make(12 + 64 * 28)", game.make(12 + 64 * 28));
        given("game.lines(3)", game.lines(3));
        given("game.look(0)", game.look(0));
        given("game.unmake()", game.unmake());
        given("game.unmake()", game.unmake());
    }

    private static void study() {
        told("MoveList study = new MoveList();");
        MoveList study = new MoveList();
        told("study.put(4, 6);");
        study.put(4, 6);
        told("study.put(7, 4);");
        study.put(7, 4);
        told("study.put(60, 12);");
        study.put(60, 12);
        told("study.put(48, 1);");
        study.put(48, 1);
        told("study.state(0, 1, MoveList.NONE);");
        study.state(0, 1, MoveList.NONE);
        given("study.playable()", study.playable());
        given("study.on(48, true)", study.on(48, true));
        given("study.kind(48 + 64 * 56 + 4096 * 5)", study.kind(48 + 64 * 56 + 4096 * 5));
        given("study.kind(4 + 64 * 6)", study.kind(4 + 64 * 6));
        given("study.check()", study.check());
        given("study.pinned()", study.pinned());
        given("study.at(48)", study.at(48));
    }

    /** Each call of the face has its row in the table, with the exceptions that it throws. */
    private static void everyCallIsTold() {
        for (var call : MoveList.class.getMethods()) {
            if (call.getDeclaringClass() != MoveList.class) {
                continue;
            }
            Matcher row = Pattern.compile("(?m)^\\|.*`" + call.getName() + "\\(.*$").matcher(readme);
            boolean found = row.find();
            Due.answer("README.md has a row for " + call.getName(), found, true);
            StringBuilder due = new StringBuilder();
            for (Class<?> e : call.getExceptionTypes()) {
                String name = e.getSimpleName();
                due.append(due.length() > 0 ? ", " : "").append(name.equals("IllegalStateException") ? "*" : "`" + name + "`");
            }
            String[] cells = found ? row.group().split("\\|", -1) : new String[4];
            Due.answer(call.getName() + " throws, says README.md,", String.valueOf(cells[3]).strip(), due.toString());
        }
    }
}
