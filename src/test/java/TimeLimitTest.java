import java.io.IOException;
import java.nio.file.Path;
import java.util.concurrent.TimeUnit;

/** Whether TimeLimit, by which .ci/run runs every test, tells a test that ends from one that throws or never ends. */
public final class TimeLimitTest {
    private static int turns = 0;

    /** Ends as a test does that found nothing. */
    static final class Ends {
        public static void main(String[] args) {
            turns++;
        }
    }

    /** Ends as a test does that found something. */
    static final class Finds {
        public static void main(String[] args) {
            System.exit(1);
        }
    }

    /** A call that throws. */
    static final class Throws {
        public static void main(String[] args) {
            throw new IllegalStateException("as a call that throws");
        }
    }

    /** A call that never ends. */
    static final class NeverEnds {
        public static void main(String[] args) {
            while (turns >= 0) turns = turns + 1 & 1023;
        }
    }

    public static void main(String[] args) throws IOException, InterruptedException {
        Check.due("one that ends", exitOf(Ends.class, 30), 0);
        Check.due("one that finds something", exitOf(Finds.class, 30), 1);
        Check.due("one that throws", exitOf(Throws.class, 30), 1);
        Check.due("one that never ends", exitOf(NeverEnds.class, 1), TimeLimit.NOT_ENDED);
        Check.end("TimeLimitTest");
    }

    private static int exitOf(Class<?> test, int seconds) throws IOException, InterruptedException {
        String java = Path.of(System.getProperty("java.home"), "bin", "java").toString();
        String classes = System.getProperty("java.class.path");
        ProcessBuilder builder = new ProcessBuilder(java, "-cp", classes, "TimeLimit", String.valueOf(seconds), test.getName());
        Process process = builder.redirectErrorStream(true).redirectOutput(ProcessBuilder.Redirect.DISCARD).start();
        boolean ended = process.waitFor(50, TimeUnit.SECONDS);
        if (!ended) process.destroyForcibly();
        return ended ? process.exitValue() : -1;
    }
}
