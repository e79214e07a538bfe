/** Compares answers with those that are due, and ends the test with exit code 1 if one is not. */
public final class Check {
    private static int checks = 0;
    private static int wrong = 0;

    private Check() {
    }

    public static void due(String call, double got, double want) {
        checks++;
        if (got != want) {
            wrong++;
            System.out.println(call + " answered " + got + ", due is " + want);
        }
    }

    public static void holds(String what, boolean holds) {
        checks++;
        if (!holds) {
            wrong++;
            System.out.println("not so: " + what);
        }
    }

    public static int wrong() {
        return wrong;
    }

    public static int checks() {
        return checks;
    }

    /** A check that was never reached is a fault of the test, so none at all counts as one. */
    public static void end(String test) {
        System.out.println(test + ": " + checks + " checks, " + wrong + " wrong");
        if (wrong != 0 || checks == 0) {
            System.exit(1);
        }
    }
}
