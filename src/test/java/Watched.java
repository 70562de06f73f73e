/** Runs the main method of a test, and ends it with exit code 1 if it takes too long: a loop without an end is wrong too. */
public final class Watched {
    private static final int MOST_SECONDS = 180;

    public static void main(String[] args) throws ReflectiveOperationException {
        Thread watch = new Thread(() -> waitAndEnd(args[0]));
        watch.setDaemon(true);
        watch.start();
        Class.forName(args[0]).getMethod("main", String[].class).invoke(null, (Object) new String[0]);
    }

    private static void waitAndEnd(String test) {
        try {
            Thread.sleep(MOST_SECONDS * 1000L);
        } catch (InterruptedException ended) {
            return;
        }
        System.out.println(test + ": not at its end after " + MOST_SECONDS + " seconds");
        Runtime.getRuntime().halt(1);
    }
}
