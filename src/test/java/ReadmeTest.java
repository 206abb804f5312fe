import java.io.File;
import java.io.IOException;
import java.lang.reflect.Method;
import java.nio.file.Files;
import java.nio.file.Path;
import java.util.ArrayDeque;
import java.util.Deque;
import java.util.List;

/** That the calls which README.md shows answer what it says, and that it names each call and each test. */
public final class ReadmeTest {
    private static final String CALL = "desk.", COMMENT = "// ";

    private final Deque<String> shown = new ArrayDeque<>();

    private ReadmeTest(List<String> lines) {
        for (String line : lines) {
            if (line.startsWith(CALL)) {
                shown.add(line);
            }
        }
    }

    public static void main(String[] args) throws IOException {
        List<String> lines = Files.readAllLines(Path.of("README.md"));
        new ReadmeTest(lines).go();
        String all = String.join("\n", lines);
        for (Method method : Face.class.getMethods()) {
            named(all, "`" + method.getName() + "(");
        }
        for (File file : new File("src/test/java").listFiles()) {
            if (file.getName().endsWith("Test.java")) {
                named(all, "| `" + file.getName().replace(".java", "") + "` |");
            }
        }
        named(all, "\n    .ci/run\n");
        Check.end();
    }

    private static void named(String all, String text) {
        if (!all.contains(text)) {
            Check.told("README.md does not name " + text.strip());
        }
    }

    /** The calls in their order there, since each rests on those before it. */
    private void go() {
        Desk desk = new Desk();
        next("field(0, 1, 0, false)", desk.field(0, 1, 0, false));
        next("field(0, 2, 3, true)", desk.field(0, 2, 3, true));
        next("feed(0x01000101, 4)", desk.feed(0x01000101, 4));
        next("feed(0x81, 1)", desk.feed(0x81, 1));
        next("feed(0x01000009, 4)", desk.feed(0x01000009, 4));
        next("feed(0x08060000, 4)", desk.feed(0x08060000, 4));
        next("feed(0x6802122A, 4)", desk.feed(0x6802122A, 4));
        next("feed(0x69, 1)", desk.feed(0x69, 1));
        next("state(1)", desk.state(1));
        next("header(1, 0)", desk.header(1, 0));
        next("messages(1)", desk.messages(1));
        next("value(1, 0, 1, 0)", desk.value(1, 0, 1, 0));
        next("value(1, 0, 2, 0)", desk.value(1, 0, 2, 0));
        next("byteOf(1, 0, 2, 0, 1)", desk.byteOf(1, 0, 2, 0, 1));
        next("window(1, false)", desk.window(1, false));
        next("grant(1, 9)", desk.grant(1, 9));
        next("answer(1)", desk.answer(1));
        next("finish(1)", desk.finish(1));
        next("state(1)", desk.state(1));
        next("drain()", desk.drain());
        Check.same("calls that README.md shows beyond these", shown.size(), 0);
    }

    private void next(String call, Object answer) {
        String line = shown.isEmpty() ? "" : shown.remove();
        if (!line.startsWith(CALL + call + ";") || !line.contains(COMMENT + answer + ": ")) {
            Check.told("README.md shows " + line + ", but " + call + " answers " + answer);
        }
    }
}
