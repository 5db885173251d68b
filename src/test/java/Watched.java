/** Runs a test's main method, and ends the program with exit code 1 if that takes too long: a call that never ends has to fail. */
public final class Watched {
    private static final long MOST_SECONDS = 300;

    public static void main(String[] args) throws Throwable {
        Thread watch = new Thread(() -> halt(args[0]));
        watch.setDaemon(true);
        watch.start();
        try {
            Class.forName(args[0]).getMethod("main", String[].class).invoke(null, (Object) new String[0]);
        } catch (java.lang.reflect.InvocationTargetException e) {
            throw e.getCause();
        }
    }

    private static void halt(String test) {
        try {
            Thread.sleep(MOST_SECONDS * 1000);
        } catch (InterruptedException e) {
            return;
        }
        System.out.println(test + ": not at its end after " + MOST_SECONDS + " seconds");
        System.out.flush();
        Runtime.getRuntime().halt(1);
    }
}
