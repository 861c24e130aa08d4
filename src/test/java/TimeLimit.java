import java.lang.reflect.InvocationTargetException;
import java.lang.reflect.Method;
import java.util.Arrays;

/**
 * Runs the main method of another class: TimeLimit SECONDS CLASS. If that does not end in so many seconds,
 * it tells which call has not, and ends all with NOT_ENDED; if it throws, with 1.
 */
public final class TimeLimit {
    static final int NOT_ENDED = 124;

    private TimeLimit() {
    }

    public static void main(String[] args) throws ReflectiveOperationException {
        int seconds = Integer.parseInt(args[0]);
        Method main = Class.forName(args[1]).getDeclaredMethod("main", String[].class);
        main.setAccessible(true);
        watch(Thread.currentThread(), seconds, args[1]);
        try {
            main.invoke(null, (Object) Arrays.copyOfRange(args, 2, args.length));
        } catch (InvocationTargetException thrown) {
            System.out.println(args[1] + " threw:");
            thrown.getCause().printStackTrace(System.out);
            System.exit(1);
        }
    }

    private static void watch(Thread test, int seconds, String name) {
        Thread watch = new Thread(() -> {
            sleep(seconds);
            System.out.println(name + " has not ended in " + seconds + " seconds; it stands");
            for (StackTraceElement call : test.getStackTrace()) System.out.println("    in " + call);
            System.out.flush();
            // not exit(): that would wait for what does not end
            Runtime.getRuntime().halt(NOT_ENDED);
        });
        watch.setDaemon(true);
        watch.start();
    }

    private static void sleep(int seconds) {
        try {
            Thread.sleep(seconds * 1000L);
        } catch (InterruptedException early) {
            // nobody interrupts it: then the limit is at once
        }
    }
}
