import java.io.IOException;
import java.util.Arrays;
import java.util.concurrent.TimeUnit;

/**
 * Runs a command, told behind a number of seconds, and ends it when it takes longer: a call that
 * fails to end is a failed test then, not one that is waited for.
 */
public final class Deadline {
    public static void main(String[] args) throws IOException, InterruptedException {
        long seconds = Long.parseLong(args[0]);
        Process command = new ProcessBuilder(Arrays.asList(args).subList(1, args.length)).inheritIO().start();
        if (!command.waitFor(seconds, TimeUnit.SECONDS)) {
            command.destroyForcibly();
            System.out.println("not at its end after " + seconds + " seconds");
            System.exit(1);
        }
        System.exit(command.exitValue());
    }
}
