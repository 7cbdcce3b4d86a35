/** Counts answers that are not the ones that are due, and prints them. */
final class Check {
    /** A call whose answer or exception is looked at. */
    interface Call {
        int answer();
    }

    static final String INDEX = "IndexOutOfBoundsException";
    static final String ARGUMENT = "IllegalArgumentException";
    static final String STATE = "IllegalStateException";

    private int looked = 0;
    private int wrong = 0;

    /** The answer as text, or the name of the exception that was thrown instead. */
    static String outcome(Call call) {
        try {
            return Integer.toString(call.answer());
        } catch (RuntimeException thrown) {
            return thrown.getClass().getSimpleName();
        }
    }

    /** Like outcome, but tells apart an exception that the keeper's own code did not throw itself. */
    private static String refusal(Call call) {
        try {
            return Integer.toString(call.answer());
        } catch (RuntimeException thrown) {
            String thrower = thrown.getStackTrace()[0].getClassName();
            String name = thrown.getClass().getSimpleName();
            return thrower.startsWith("LicenceKeeper") ? name : name + " from " + thrower;
        }
    }

    void equal(String what, Object got, Object want) {
        looked++;
        if (!got.equals(want)) {
            wrong++;
            System.out.println(what + ": answered " + got + ", due is " + want);
        }
    }

    void answers(String what, int want, Call call) {
        equal(what, outcome(call), Integer.toString(want));
    }

    /** The call throws just this exception, and what a keeper answers after it is what it answers without it. */
    void refuses(String what, String exception, Recorded keeper, Recorded.Step call) {
        LicenceKeeper called = keeper.again();
        equal(what, refusal(() -> call.on(called)), exception);
        equal(what + " changes nothing", Snapshot.ofAll(called), Snapshot.ofAll(keeper.again()));
    }

    /** Prints the sum, and ends the program with exit code 1 if something was wrong. */
    void end(String name) {
        System.out.println(name + ": " + looked + " looked at, " + wrong + " wrong");
        if (wrong > 0 || looked == 0) {
            System.exit(1);
        }
    }
}
