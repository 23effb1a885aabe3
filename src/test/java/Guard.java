import java.lang.reflect.InvocationTargetException;

/** Runs the test that is named, and lets it fail if it does not end: a broken class may loop. */
public final class Guard {
    private static final long MOST_MILLISECONDS = 180_000;

    public static void main(String[] args) throws ReflectiveOperationException {
        String test = args[0];
        Thread watch = new Thread(() -> haltLate(test));
        watch.setDaemon(true);
        watch.start();
        try {
            Class.forName(test).getMethod("main", String[].class).invoke(null, (Object) new String[0]);
        } catch (InvocationTargetException thrown) {
            thrown.getCause().printStackTrace();
            System.exit(1);
        }
    }

    private static void haltLate(String test) {
        try {
            Thread.sleep(MOST_MILLISECONDS);
        } catch (InterruptedException interrupted) {
            return;
        }
        System.out.println(test + " does not end");
        Runtime.getRuntime().halt(1);
    }
}
