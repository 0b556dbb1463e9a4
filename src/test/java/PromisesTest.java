import java.io.IOException;
import java.nio.file.Files;
import java.nio.file.Path;
import java.util.ArrayList;
import java.util.List;
import java.util.stream.Stream;

/**
 * The runs under src/test/runs: files 00 for what the document says before its promises, and one for
 * each promise. A line "-- text" begins a run on a new object and says what it shows; ".. name"
 * stands for the lines of parts/name.txt; every other line is a call and the answer that is due. The
 * model that the random runs trust is held to them, too.
 */
public final class PromisesTest {
    private static final int LAST_PROMISE = 19;
    private static final int MOST_CALLS = 512;
    private static final Path RUNS = Path.of("src/test/runs");

    private final List<String> wrong = new ArrayList<>();
    private FrozenBranches program;
    private DocumentModel model;
    private int calls;

    public static void main(String[] args) throws IOException {
        PromisesTest test = new PromisesTest();
        List<Path> files = files();
        for (int number = 0; number <= LAST_PROMISE; number++) {
            test.checkThatThereIs(files, String.format("%02d-", number));
        }
        for (Path file : files) {
            test.check(file);
        }
        test.wrong.forEach(System.out::println);
        if (!test.wrong.isEmpty()) {
            System.exit(1);
        }
    }

    private static List<Path> files() throws IOException {
        try (Stream<Path> files = Files.list(RUNS)) {
            return files.filter(Files::isRegularFile).sorted().toList();
        }
    }

    private void checkThatThereIs(List<Path> files, String start) {
        if (files.stream().noneMatch(file -> file.getFileName().toString().startsWith(start))) {
            wrong.add("no runs with number " + start);
        }
    }

    private void check(Path file) throws IOException {
        String run = "";
        for (String line : linesOf(file)) {
            if (line.startsWith("--")) {
                run = file.getFileName() + " " + line;
                program = new FrozenBranches();
                model = new DocumentModel();
                calls = 0;
            } else {
                checkCall(run, line);
            }
        }
    }

    private static List<String> linesOf(Path file) throws IOException {
        List<String> lines = new ArrayList<>();
        for (String line : Files.readAllLines(file)) {
            if (line.startsWith("..")) {
                lines.addAll(linesOf(RUNS.resolve("parts").resolve(line.substring(2).trim() + ".txt")));
            } else if (!line.isBlank()) {
                lines.add(line);
            }
        }
        return lines;
    }

    private void checkCall(String run, String line) {
        int end = line.indexOf(')') + 1;
        Call call = Call.parse(line.substring(0, end));
        String due = line.substring(end).trim()
                .replace("MIN", "" + Integer.MIN_VALUE).replace("MAX", "" + Integer.MAX_VALUE);
        calls++;
        compare(run, call, "the program", call.on(program), due);
        compare(run, call, "the model", model.answer(call), due);
        if (calls > MOST_CALLS) {
            wrong.add(run + ": more calls than an object is used for");
        }
    }

    private void compare(String run, Call call, String who, String got, String due) {
        if (!got.equals(due)) {
            wrong.add(run + ": call " + calls + ", " + call + ": " + who + " answered " + got + ", due is " + due);
        }
    }
}
