/** What the tests share: each is a main method that counts what is wrong and ends with it. */
final class Check {
    private static int checks = 0;
    private static int wrong = 0;
    private static String within = "";

    private Check() {
    }

    static void equal(String what, long due, long got) {
        report(due == got, what, String.valueOf(due), String.valueOf(got));
    }

    static void equal(String what, double due, double got) {
        report(due == got, what, String.valueOf(due), String.valueOf(got));
    }

    static void equal(String what, boolean due, boolean got) {
        report(due == got, what, String.valueOf(due), String.valueOf(got));
    }

    static void equal(String what, String due, String got) {
        report(due.equals(got), what, due, got);
    }

    /** The call throws just this exception, by a throw of the inn's own: the machine and the library throw none. */
    static void throwsItself(Class<? extends RuntimeException> due, String what, Runnable call) {
        String got = "nothing";
        try {
            call.run();
        } catch (RuntimeException e) {
            boolean thrownByInn = e.getStackTrace()[0].getClassName().startsWith("GhostInn");
            got = e.getClass().getName() + (thrownByInn ? "" : " of the machine");
        }
        report(due.getName().equals(got), what, due.getName(), got);
    }

    /** The call throws just this exception, and the inn is as before. */
    static void refuses(GhostInn inn, String what, Class<? extends RuntimeException> due, Runnable call) {
        long before = inn.digest();
        throwsItself(due, what, call);
        equal(what + " changes nothing, digest()", before, inn.digest());
    }

    static void refusesIndex(GhostInn inn, String what, Runnable call) {
        refuses(inn, what, IndexOutOfBoundsException.class, call);
    }

    static void refusesArgument(GhostInn inn, String what, Runnable call) {
        refuses(inn, what, IllegalArgumentException.class, call);
    }

    static void refusesState(GhostInn inn, String what, Runnable call) {
        refuses(inn, what, IllegalStateException.class, call);
    }

    /** How many answers of this one test are wrong; that it checks nothing, or breaks off, is wrong as well. */
    static int wrongIn(String name, Runnable test) {
        int checksBefore = checks;
        int wrongBefore = wrong;
        within = name + "\n        ";
        try {
            test.run();
        } catch (RuntimeException | StackOverflowError e) {
            report(false, "the test breaks off", "an answer", e.toString());
        }
        report(checks > checksBefore, "the test", "a check", "none");
        within = "";
        return wrong - wrongBefore;
    }

    static void end() {
        if (checks == 0) {
            System.out.println("nothing was checked");
            System.exit(1);
        }
        System.out.println(checks - wrong + " of " + checks + " answers are as due");
        if (wrong > 0) {
            System.exit(1);
        }
    }

    private static void report(boolean right, String what, String due, String got) {
        checks++;
        if (!right) {
            wrong++;
            System.out.println(within + what + ": due is " + due + ", got " + got);
        }
    }
}
