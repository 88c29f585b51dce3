import java.util.NoSuchElementException;
import java.util.function.Function;
import java.util.function.Supplier;

/** Counts the answers of a test that are not as due. */
final class Checks {
    private static final Class<NoSuchElementException> MISSING = NoSuchElementException.class;

    private int made = 0;
    private int wrong = 0;
    private String where = "";

    interface Call {
        void make();
    }

    interface Change {
        void make(FormworkYard yard);
    }

    /** A call of which one argument is open; its text has a question mark for it. */
    interface OpenCall {
        void make(FormworkYard yard, int value);
    }

    /** Begins a part whose reports are told with these words ahead. */
    void part(String words) {
        where = words + ": ";
    }

    int made() {
        return made;
    }

    void due(String call, long got, long want) {
        made++;
        if (got != want) {
            report(call + " answered " + got + ", due is " + want);
        }
    }

    void same(String what, String got, String want) {
        made++;
        if (!got.equals(want)) {
            report(what + " is " + got + ", due is " + want);
        }
    }

    void refused(String call, Class<? extends RuntimeException> due, Call refusedCall) {
        made++;
        String got = thrownBy(refusedCall);
        if (!got.equals(due.getName())) {
            report(call + " throws " + got + ", due is " + due.getName());
        }
    }

    void taken(String call, Call takenCall) {
        made++;
        String got = thrownBy(takenCall);
        if (!got.equals("nothing")) {
            report(call + " throws " + got + ", due is nothing");
        }
    }

    /** The call is refused in a full yard, which is the same afterwards. */
    void refusedUnchanged(String call, Class<? extends RuntimeException> due, Change refusedCall) {
        refusedUnchangedIn(Yards::busy, call, due, refusedCall);
    }

    /** Makes the call on one of two like yards, and looks that they are alike afterwards too. */
    void refusedUnchangedIn(Supplier<FormworkYard> yards, String call,
            Class<? extends RuntimeException> due, Change refusedCall) {
        for (Function<FormworkYard, String> look : Yards.LOOKS) {
            FormworkYard asked = yards.get();
            refused(call, due, () -> refusedCall.make(asked));
            same("the yard after " + call, look.apply(asked), look.apply(yards.get()));
        }
    }

    /** Takes the least and the most; refuses the next ones beyond them and the farthest. */
    void range(String call, int least, int most, Class<? extends RuntimeException> due,
            OpenCall open) {
        int[] inside = {least, most};
        for (int value : inside) {
            taken(filled(call, value), () -> open.make(Yards.roomy(), value));
        }
        int[] outside = {least - 1, most + 1, Integer.MIN_VALUE, Integer.MAX_VALUE};
        for (int value : outside) {
            refusedUnchanged(filled(call, value), due, yard -> open.make(yard, value));
            refusedUnchangedIn(Yards::roomy, filled(call, value), due,
                    yard -> open.make(yard, value));
        }
    }

    /** Takes each number that has a pour; refuses the others, whether one was there or never. */
    void pourNumbers(String call, OpenCall open) {
        int[] ends = {0, 9};
        for (int number : ends) {
            taken(filled(call, number), () -> open.make(Yards.ten(), number));
            refusedUnchangedIn(FormworkYard::new, filled(call, number) + " without pours", MISSING,
                    yard -> open.make(yard, number));
        }
        int[] there = {1, 3};
        for (int number : there) {
            taken(filled(call, number) + " of two pours", () -> open.make(Yards.roomy(), number));
        }
        int[] cancelled = {0, 2, 4, 9};
        for (int number : cancelled) {
            refusedUnchangedIn(Yards::roomy, filled(call, number) + " cancelled", MISSING,
                    yard -> open.make(yard, number));
        }
        int[] never = {-1, 10, Integer.MIN_VALUE, Integer.MAX_VALUE};
        for (int number : never) {
            refusedUnchanged(filled(call, number), MISSING, yard -> open.make(yard, number));
        }
    }

    private static String filled(String call, int value) {
        return call.replace("?", Integer.toString(value));
    }

    void end(String test) {
        System.out.println(test + ": " + made + " checks, " + wrong + " wrong");
        if (wrong != 0 || made == 0) {
            System.exit(1);
        }
    }

    void report(String line) {
        wrong++;
        System.out.println(where + line);
    }

    private static String thrownBy(Call call) {
        try {
            call.make();
            return "nothing";
        } catch (RuntimeException thrown) {
            return thrown.getClass().getName();
        }
    }
}
