import java.io.IOException;
import java.lang.reflect.Method;
import java.lang.reflect.Modifier;
import java.nio.file.Files;
import java.nio.file.Path;
import java.util.Set;
import java.util.TreeSet;

/** The README's example: each call answers what is written behind it, and no call is left out. */
public final class ReadmeTest {
    private static final String OBJECT = "store.";

    public static void main(String[] args) throws IOException {
        FrozenBranches store = new FrozenBranches();
        Set<String> missing = callsOfTheFace();
        boolean right = true;
        for (String line : Files.readAllLines(Path.of("README.md"))) {
            if (line.startsWith(OBJECT)) {
                Call call = Call.parse(line.substring(OBJECT.length(), line.indexOf(';')));
                String due = line.substring(line.indexOf("//") + 2).split(":")[0].trim();
                String got = call.on(store);
                missing.remove(call.name());
                if (!got.equals(due)) {
                    right = false;
                    System.out.println(line + ": the program answered " + got);
                }
            }
        }
        for (String name : missing) {
            right = false;
            System.out.println("not in the README's example: " + name);
        }
        if (!right) {
            System.exit(1);
        }
    }

    private static Set<String> callsOfTheFace() {
        Set<String> names = new TreeSet<>();
        for (Method each : FrozenBranches.class.getDeclaredMethods()) {
            if (Modifier.isPublic(each.getModifiers())) {
                names.add(each.getName());
            }
        }
        return names;
    }
}
