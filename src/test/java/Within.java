import java.lang.reflect.InvocationTargetException;

/** Runs a test, and ends it with exit code 1 if it goes on for too long: a call that does not end must fail and not hang. */
public final class Within {
    private Within() { }

    public static void main(String[] args) throws Throwable {
        long seconds = Long.parseLong(args[0]);
        String test = args[1];
        Thread watch = new Thread(() -> endAfter(seconds, test));
        watch.setDaemon(true);
        watch.start();
        try {
            Class.forName(test).getMethod("main", String[].class).invoke(null, (Object) new String[0]);
        } catch (InvocationTargetException thrown) {
            throw thrown.getCause();
        }
    }

    private static void endAfter(long seconds, String test) {
        try {
            Thread.sleep(seconds * 1000);
        } catch (InterruptedException ended) {
            return;
        }
        System.out.println(test + " went on for more than " + seconds + " seconds");
        Runtime.getRuntime().halt(1);
    }
}
