import java.util.Map;
import java.util.Random;
import java.util.TreeMap;

/** Long runs of calls by fixed seeds; the program must answer each as the model of the document. */
public final class RandomRunsTest {
    private static final int RUNS = 3000;
    private static final int CALLS = 512;

    // How often a call comes, so that rooms fill up, powers fail, and all is asked for.
    private static final String[] CALLS_BY_WEIGHT = spread(
            "put", 36, "remove", 12, "get", 4, "next", 4, "count", 2, "nodes", 3, "shared", 5,
            "differ", 4, "snapshot", 5, "rollback", 3, "drop", 4, "commit", 4, "free", 6, "due", 3,
            "order", 2, "recover", 3, "writes", 2, "down", 2);

    private static final int[] ODD = {-1, 64, 7, -64, 101, 128, Integer.MIN_VALUE, Integer.MAX_VALUE};

    // Answers that some run must have met, or the runs prove less than they seem to.
    private static final String[] MUST_BE_MET = {
        "put 0", "put 1", "put 2", "put throws.IllegalStateException",
        "put throws.IllegalArgumentException", "put throws.UnsupportedOperationException",
        "remove throws.NoSuchElementException", "remove throws.UnsupportedOperationException",
        "get throws.IllegalArgumentException", "get throws.NoSuchElementException", "next -1",
        "snapshot 6", "snapshot throws.UnsupportedOperationException",
        "rollback throws.IllegalArgumentException", "drop throws.IllegalArgumentException",
        "drop 3", "commit 1", "commit throws.IllegalStateException", "free 0", "free 60",
        "due 1", "order false", "order true", "recover -1", "recover 0", "recover 6",
        "down true", "down false"};

    public static void main(String[] args) {
        Map<String, Integer> met = new TreeMap<>();
        for (int run = 0; run < RUNS; run++) {
            String wrong = firstWrongAnswer(run, met);
            if (wrong != null) {
                System.out.println(wrong);
                System.exit(1);
            }
        }
        boolean allMet = true;
        for (String answer : MUST_BE_MET) {
            if (!met.containsKey(answer)) {
                allMet = false;
                System.out.println("no run met: " + answer);
            }
        }
        if (!allMet) {
            System.exit(1);
        }
    }

    private static String firstWrongAnswer(int seed, Map<String, Integer> met) {
        Random random = new Random(seed);
        FrozenBranches program = new FrozenBranches();
        DocumentModel model = new DocumentModel();
        StringBuilder told = new StringBuilder("seed " + seed + "\n");
        int valuesUsed = 1 + random.nextInt(4);
        int keysUsed = 1 + random.nextInt(64);
        for (int i = 0; i < CALLS; i++) {
            Call call = anyCall(random, keysUsed, valuesUsed);
            String due = model.answer(call);
            String got = call.on(program);
            told.append(call).append(' ').append(got).append('\n');
            met.merge(call.name() + " " + due, 1, Integer::sum);
            if (!got.equals(due)) {
                return told + "due is " + due;
            }
        }
        return null;
    }

    private static Call anyCall(Random random, int keysUsed, int valuesUsed) {
        String name = CALLS_BY_WEIGHT[random.nextInt(CALLS_BY_WEIGHT.length)];
        return switch (name) {
            case "put" -> new Call(name, key(random, keysUsed), random.nextInt(valuesUsed));
            case "remove" -> new Call(name, key(random, keysUsed));
            case "get" -> new Call(name, handle(random), key(random, keysUsed));
            case "next" -> new Call(name, handle(random), key(random, 64));
            case "count", "nodes", "rollback", "drop" -> new Call(name, handle(random));
            case "shared", "differ" -> new Call(name, handle(random), handle(random));
            case "order" -> new Call(name, oddOr(random, random.nextInt(random.nextBoolean() ? 8 : 101)));
            default -> new Call(name);
        };
    }

    private static int key(Random random, int keysUsed) {
        // A step of 23 visits all of 0 .. 63 and spreads few keys over many branches.
        return oddOr(random, random.nextInt(keysUsed) * 23 % 64);
    }

    private static int handle(Random random) {
        return oddOr(random, random.nextInt(3) == 0 ? 0 : random.nextInt(7));
    }

    private static int oddOr(Random random, int usual) {
        return random.nextInt(25) == 0 ? ODD[random.nextInt(ODD.length)] : usual;
    }

    private static String[] spread(Object... namesAndWeights) {
        StringBuilder all = new StringBuilder();
        for (int i = 0; i < namesAndWeights.length; i += 2) {
            all.append((namesAndWeights[i] + " ").repeat((Integer) namesAndWeights[i + 1]));
        }
        return all.toString().trim().split(" ");
    }
}
