/** Counts what was looked at, and tells what was not as it is due. */
final class Check {
    private int right = 0;
    private int wrong = 0;

    void is(String what, long got, long due) {
        note(got == due, what + " answered " + got + ", due is " + due);
    }

    void is(String what, boolean got, boolean due) {
        note(got == due, what + " answered " + got + ", due is " + due);
    }

    void is(String what, double got, double due) {
        note(Double.compare(got, due) == 0, what + " answered " + got + ", due is " + due);
    }

    void is(String what, String got, String due) {
        note(got.equals(due), what + " answered " + got + ", due is " + due);
    }

    /** The call has to throw just this exception, and to change nothing that the digest tells. */
    void refuses(Class<? extends RuntimeException> due, TimberList list, String what, Runnable call) {
        long before = list.digest();
        String thrown = "nothing";
        try {
            call.run();
        } catch (RuntimeException e) {
            thrown = nameOf(e);
        }
        is(what + " throws", thrown, due.getSimpleName());
        is(what + " leaves the digest", list.digest(), before);
    }

    /** The exception's name; with a mark if the library threw it, for which the class has to leave no occasion. */
    static String nameOf(RuntimeException e) {
        StackTraceElement[] trace = e.getStackTrace();
        boolean isOwn = trace.length == 0 || trace[0].getClassName().matches("(TimberList|SlowList).*");
        return e.getClass().getSimpleName() + (isOwn ? "" : " of the library");
    }

    /** Ends the program: with exit code 1 if something was wrong. */
    void end(String name) {
        System.out.println(name + ": " + right + " answers as due, " + wrong + " not");
        if (wrong != 0) {
            System.exit(1);
        }
    }

    private void note(boolean isRight, String text) {
        if (isRight) {
            right++;
            return;
        }
        wrong++;
        System.out.println(text);
    }
}
