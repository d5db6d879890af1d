/** Runs the main method of another class, and ends all if that takes too long: a call that never ends must fail, too. */
public final class Limited {
    private static final long SECONDS = 300;

    private Limited() {
    }

    public static void main(String[] args) throws Exception {
        Thread watch = new Thread(Limited::endLate);
        watch.setDaemon(true);
        watch.start();
        try {
            Class.forName(args[0]).getMethod("main", String[].class).invoke(null, (Object) new String[0]);
        } catch (java.lang.reflect.InvocationTargetException problem) {
            problem.getCause().printStackTrace();
            System.exit(1);
        }
    }

    private static void endLate() {
        try {
            Thread.sleep(SECONDS * 1000);
        } catch (InterruptedException problem) {
            return;
        }
        System.out.println("no end within " + SECONDS + " seconds");
        System.out.flush();
        Runtime.getRuntime().halt(3);
    }
}
