import java.util.Arrays;
import java.util.stream.Collectors;

/** One call of the face, written as in a run: name and arguments, such as put(5, 50). */
record Call(String name, int... arguments) {

    static Call parse(String text) {
        int open = text.indexOf('(');
        String inside = text.substring(open + 1, text.lastIndexOf(')')).trim();
        int[] arguments = inside.isEmpty()
                ? new int[0]
                : Arrays.stream(inside.split(",")).mapToInt(each -> number(each.trim())).toArray();
        return new Call(text.substring(0, open).trim(), arguments);
    }

    private static int number(String text) {
        return switch (text) {
            case "MIN" -> Integer.MIN_VALUE;
            case "MAX" -> Integer.MAX_VALUE;
            default -> Integer.parseInt(text);
        };
    }

    /** The answer as text; throws.X when the call throws X. */
    String on(FrozenBranches x) {
        try {
            return String.valueOf(answerOf(x));
        } catch (RuntimeException e) {
            return "throws." + e.getClass().getSimpleName();
        }
    }

    private Object answerOf(FrozenBranches x) {
        return switch (name) {
            case "put" -> x.put(at(0), at(1));
            case "remove" -> x.remove(at(0));
            case "get" -> x.get(at(0), at(1));
            case "next" -> x.next(at(0), at(1));
            case "count" -> x.count(at(0));
            case "nodes" -> x.nodes(at(0));
            case "shared" -> x.shared(at(0), at(1));
            case "differ" -> x.differ(at(0), at(1));
            case "snapshot" -> x.snapshot();
            case "rollback" -> x.rollback(at(0));
            case "drop" -> x.drop(at(0));
            case "commit" -> x.commit();
            case "free" -> x.free();
            case "due" -> x.due();
            case "order" -> x.order(at(0));
            case "recover" -> x.recover();
            case "writes" -> x.writes();
            case "down" -> x.down();
            default -> throw new AssertionError("no such call: " + name);
        };
    }

    int at(int index) {
        return arguments[index];
    }

    @Override
    public String toString() {
        return name + Arrays.stream(arguments).mapToObj(String::valueOf)
                .collect(Collectors.joining(", ", "(", ")"));
    }
}
