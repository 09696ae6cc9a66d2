/**
 * Runs the test of that name and halts it if it runs too long: a call that does not end is a
 * failure to be told, not one to wait for.
 */
public final class Limit {
    // Some fifty times what the longest test takes, for machines that are slow or busy.
    private static final int SECONDS = 600;

    public static void main(String[] args) throws Exception {
        Thread watch = new Thread(() -> haltLate(args[0]));
        watch.setDaemon(true);
        watch.start();
        Class.forName(args[0]).getMethod("main", String[].class).invoke(null, (Object) new String[0]);
    }

    private static void haltLate(String test) {
        try {
            Thread.sleep(SECONDS * 1000L);
        } catch (InterruptedException e) {
            return;
        }
        System.out.println(test + ": not ended after " + SECONDS + " seconds");
        System.out.flush();
        Runtime.getRuntime().halt(1);
    }
}
