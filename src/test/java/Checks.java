/** Counts the answers of a test that are not as due. */
final class Checks {
    private int made = 0;
    private int wrong = 0;

    interface Call {
        void make();
    }

    interface Change {
        void make(FormworkYard yard);
    }

    void due(String call, long got, long want) {
        made++;
        if (got != want) {
            report(call + " answered " + got + ", due is " + want);
        }
    }

    void same(String what, String got, String want) {
        made++;
        if (!got.equals(want)) {
            report(what + " is " + got + ", due is " + want);
        }
    }

    void refused(String call, Class<? extends RuntimeException> due, Call refusedCall) {
        made++;
        String got = thrownBy(refusedCall);
        if (!got.equals(due.getName())) {
            report(call + " throws " + got + ", due is " + due.getName());
        }
    }

    /** Makes the call on one of two like yards, and looks that they are alike afterwards too. */
    void refusedUnchanged(String call, Class<? extends RuntimeException> due, Change refusedCall) {
        FormworkYard asked = Yards.busy();
        refused(call, due, () -> refusedCall.make(asked));
        same("the yard after " + call, Yards.picture(asked), Yards.picture(Yards.busy()));
    }

    void end(String test) {
        System.out.println(test + ": " + made + " checks, " + wrong + " wrong");
        if (wrong != 0 || made == 0) {
            System.exit(1);
        }
    }

    private static String thrownBy(Call call) {
        try {
            call.make();
            return "nothing";
        } catch (RuntimeException thrown) {
            return thrown.getClass().getName();
        }
    }

    private void report(String line) {
        wrong++;
        System.out.println(line);
    }
}
