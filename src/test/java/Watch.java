import java.lang.reflect.InvocationTargetException;
import java.util.Arrays;

/** Runs a test's main, and ends it as failed if a call does not end. */
public final class Watch {
    private static final int SECONDS = 200;

    private Watch() {
    }

    public static void main(String[] args) throws Throwable {
        Thread watch = new Thread(Watch::halt);
        watch.setDaemon(true);
        watch.start();
        String[] rest = Arrays.copyOfRange(args, 1, args.length);
        try {
            Class.forName(args[0]).getMethod("main", String[].class).invoke(null, (Object) rest);
        } catch (InvocationTargetException e) {
            throw e.getCause();
        }
    }

    private static void halt() {
        try {
            Thread.sleep(SECONDS * 1000L);
        } catch (InterruptedException e) {
            return;
        }
        System.out.println("it did not end in " + SECONDS + " seconds");
        System.out.flush();
        Runtime.getRuntime().halt(1);
    }
}
