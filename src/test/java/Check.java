/** What the tests share: each is a main method that counts what is wrong and ends with it. */
final class Check {
    private static int checks = 0;
    private static int wrong = 0;

    private Check() {
    }

    static void equal(String what, long due, long got) {
        report(due == got, what, String.valueOf(due), String.valueOf(got));
    }

    static void equal(String what, double due, double got) {
        report(due == got, what, String.valueOf(due), String.valueOf(got));
    }

    static void equal(String what, boolean due, boolean got) {
        report(due == got, what, String.valueOf(due), String.valueOf(got));
    }

    static void equal(String what, String due, String got) {
        report(due.equals(got), what, due, got);
    }

    /** The call throws just this exception, by a throw of the inn's own, and the inn is as before. */
    static void refuses(GhostInn inn, String what, Class<? extends RuntimeException> due, Runnable call) {
        long before = inn.digest();
        String got = "nothing";
        try {
            call.run();
        } catch (RuntimeException e) {
            boolean thrownByInn = e.getStackTrace()[0].getClassName().startsWith("GhostInn");
            got = e.getClass().getName() + (thrownByInn ? "" : " of the machine");
        }
        report(due.getName().equals(got), what, due.getName(), got);
        equal(what + " changes nothing, digest()", before, inn.digest());
    }

    static void refusesIndex(GhostInn inn, String what, Runnable call) {
        refuses(inn, what, IndexOutOfBoundsException.class, call);
    }

    static void refusesArgument(GhostInn inn, String what, Runnable call) {
        refuses(inn, what, IllegalArgumentException.class, call);
    }

    static void refusesState(GhostInn inn, String what, Runnable call) {
        refuses(inn, what, IllegalStateException.class, call);
    }

    static void end() {
        if (checks == 0) {
            System.out.println("nothing was checked");
            System.exit(1);
        }
        System.out.println(checks - wrong + " of " + checks + " answers are as due");
        if (wrong > 0) {
            System.exit(1);
        }
    }

    private static void report(boolean right, String what, String due, String got) {
        checks++;
        if (!right) {
            wrong++;
            System.out.println(what + ": due is " + due + ", got " + got);
        }
    }
}
