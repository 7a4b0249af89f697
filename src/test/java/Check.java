/** Counts what is as due and prints what isn't. */
final class Check {
    private static final long MOST_SECONDS = 300;
    private int passed = 0;
    private int failed = 0;

    /** A call that does not end is a fault too, and must not keep the whole run waiting. */
    Check() {
        Thread watch = new Thread(Check::giveUp);
        watch.setDaemon(true);
        watch.start();
    }

    private static void giveUp() {
        try {
            Thread.sleep(MOST_SECONDS * 1000);
        } catch (InterruptedException e) {
            return;
        }
        System.out.println("not at its end behind " + MOST_SECONDS + " seconds");
        System.out.flush();
        Runtime.getRuntime().halt(1);
    }

    interface Call {
        Object answer();
    }

    /** What a call answers, or throws.Name. */
    static String told(Call call) {
        try {
            return String.valueOf(call.answer());
        } catch (RuntimeException e) {
            return "throws." + e.getClass().getSimpleName();
        }
    }

    void due(String what, Object want, Call call) {
        String got = told(call);
        if (got.equals(String.valueOf(want))) {
            passed++;
        } else {
            failed++;
            System.out.println(what + " answered " + got + ", due is " + want);
        }
    }

    void index(String what, Call call) {
        due(what, "throws.IndexOutOfBoundsException", call);
    }

    void state(String what, Call call) {
        due(what, "throws.IllegalStateException", call);
    }

    void arithmetic(String what, Call call) {
        due(what, "throws.ArithmeticException", call);
    }

    void end() {
        System.out.println(passed + " passed, " + failed + " failed");
        if (failed > 0 || passed == 0) {
            System.exit(1);
        }
    }
}
