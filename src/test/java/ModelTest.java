import java.util.function.IntSupplier;

/** All promises: long runs of mixed calls, answered by the class and by NaiveYard alike. */
public final class ModelTest {
    private static final int RUNS = 1200;
    /** Behind so many calls the document promises nothing. */
    private static final int MOST_CALLS = 512;
    private static final int MOST_REPORTS = 20;

    private final FormworkYard yard = new FormworkYard();
    private final NaiveYard naive = new NaiveYard();
    /** Small yards and short hours let pours meet; every third run is spread over all hours. */
    private final int lastStart;
    private long seed;
    private int calls = 0;
    private int wrong = 0;

    private ModelTest(int run) {
        seed = run * 7919L + 13;
        lastStart = run % 3 == 0 ? 900 : 60 + 40 * (run % 7);
    }

    public static void main(String[] args) {
        int wrong = 0;
        for (int run = 0; run < RUNS && wrong < MOST_REPORTS; run++) {
            ModelTest test = new ModelTest(run);
            while (test.calls < MOST_CALLS && test.wrong == 0) {
                test.makeCalls("run " + run + ", ");
            }
            wrong += test.wrong;
        }
        System.out.println("ModelTest: " + RUNS + " runs, " + wrong + " wrong");
        if (wrong != 0) {
            System.exit(1);
        }
    }

    private void makeCalls(String where) {
        int kind = upTo(99);
        if (kind < 22) {
            changeYard(where, kind);
        } else if (kind < 52) {
            changePours(where, kind);
        } else if (kind < 72) {
            askPour(where, pour());
        } else {
            askPanels(where);
        }
    }

    private void changeYard(String where, int kind) {
        if (kind < 10) {
            int from = upTo(9) == 0 ? edge(0, 999) : upTo(999);
            int to = upTo(9) == 0 ? edge(0, 999) : Math.min(999, from + upTo(120));
            int temperature = value(-40, 50);
            compare(where + "setTemperature(" + from + ", " + to + ", " + temperature + ")", () -> {
                yard.setTemperature(from, to, temperature);
                return 0;
            }, () -> {
                naive.setTemperature(from, to, temperature);
                return 0;
            });
        } else if (kind < 14) {
            int panels = value(0, 60);
            compare(where + "setPanels(" + panels + ")",
                    () -> yard.setPanels(panels), () -> naive.setPanels(panels));
        } else if (kind < 18) {
            int trucks = value(1, 50);
            int pump = value(1, 50);
            compare(where + "setRates(" + trucks + ", " + pump + ")",
                    () -> yard.setRates(trucks, pump), () -> naive.setRates(trucks, pump));
        } else {
            int setUp = value(0, 24);
            int cleaning = value(0, 24);
            compare(where + "setCrew(" + setUp + ", " + cleaning + ")", () -> {
                yard.setCrew(setUp, cleaning);
                return 0;
            }, () -> {
                naive.setCrew(setUp, cleaning);
                return 0;
            });
        }
    }

    private void changePours(String where, int kind) {
        int pour = pour();
        if (kind < 36) {
            int start = start();
            int volume = value(1, 200);
            int panels = value(1, 30);
            int strength = value(1, 100);
            compare(where + "plan(" + start + ", " + volume + ", " + panels + ", " + strength + ")",
                    () -> yard.plan(start, volume, panels, strength),
                    () -> naive.plan(start, volume, panels, strength));
        } else if (kind < 40) {
            int start = start();
            compare(where + "move(" + pour + ", " + start + ")",
                    () -> yard.move(pour, start), () -> naive.move(pour, start));
        } else if (kind < 43) {
            compare(where + "cancel(" + pour + ")",
                    () -> yard.cancel(pour), () -> naive.cancel(pour));
        } else {
            int part = upTo(3) == 0 ? value(0, 200) : upTo(20);
            int hours = value(1, 9);
            compare(where + "delay(" + pour + ", " + part + ", " + hours + ")",
                    () -> yard.delay(pour, part, hours), () -> naive.delay(pour, part, hours));
        }
    }

    private void askPour(String where, int pour) {
        compare(where + "pours()", () -> yard.pours(), () -> naive.pours());
        compare(where + "endOf(" + pour + ")", () -> yard.endOf(pour), () -> naive.endOf(pour));
        compare(where + "coldJoints(" + pour + ")",
                () -> yard.coldJoints(pour), () -> naive.coldJoints(pour));
        compare(where + "struck(" + pour + ")", () -> yard.struck(pour), () -> naive.struck(pour));
        compare(where + "freeFrom(" + pour + ")",
                () -> yard.freeFrom(pour), () -> naive.freeFrom(pour));
        compare(where + "panelsOf(" + pour + ")",
                () -> yard.panelsOf(pour), () -> naive.panelsOf(pour));
    }

    private void askPanels(String where) {
        int hour = upTo(3) == 0 ? value(0, 999) : upTo(lastStart + 50);
        int to = value(0, 999);
        int panel = value(0, 60);
        int maturity = upTo(1) == 0 ? upTo(6000) : value(0, 1000000);
        compare(where + "temperature(" + hour + ")",
                () -> yard.temperature(hour), () -> naive.temperature(hour));
        compare(where + "maturity(" + hour + ", " + to + ")",
                () -> yard.maturity(hour, to), () -> naive.maturity(hour, to));
        compare(where + "strength(" + maturity + ")",
                () -> yard.strength(maturity), () -> naive.strength(maturity));
        compare(where + "need(" + hour + ")", () -> yard.need(hour), () -> naive.need(hour));
        compare(where + "pourOf(" + panel + ", " + hour + ")",
                () -> yard.pourOf(panel, hour), () -> naive.pourOf(panel, hour));
        compare(where + "peak()", () -> yard.peak(), () -> naive.peak());
        compare(where + "peakByOverlaps()", () -> yard.peakByOverlaps(),
                () -> naive.peakByOverlaps());
        compare(where + "firstShort()", () -> yard.firstShort(), () -> naive.firstShort());
        if (upTo(3) == 0) {
            int from = start();
            int volume = value(1, 200);
            int panels = value(1, 30);
            int strength = value(1, 100);
            compare(where + "earliest(" + from + ", " + volume + ", " + panels + ", " + strength + ")",
                    () -> yard.earliest(from, volume, panels, strength),
                    () -> naive.earliest(from, volume, panels, strength));
        }
    }

    private void compare(String call, IntSupplier asked, IntSupplier due) {
        if (calls >= MOST_CALLS) {
            return;
        }
        calls++;
        String got = answer(asked);
        String want = answer(due);
        if (!got.equals(want)) {
            wrong++;
            System.out.println(call + " answered " + got + ", due is " + want);
        }
    }

    private static String answer(IntSupplier call) {
        try {
            return Integer.toString(call.getAsInt());
        } catch (RuntimeException thrown) {
            return "throws." + thrown.getClass().getName();
        }
    }

    private int start() {
        return upTo(15) == 0 ? edge(0, 900) : upTo(lastStart);
    }

    private int pour() {
        return upTo(15) == 0 ? edge(0, 9) : upTo(9);
    }

    private int value(int least, int most) {
        return upTo(15) == 0 ? edge(least, most) : least + upTo(most - least);
    }

    private int edge(int least, int most) {
        int[] edges = {least - 1, least, least, most, most, most + 1,
            Integer.MIN_VALUE, Integer.MAX_VALUE};
        return edges[upTo(edges.length - 1)];
    }

    /** 0 to most, the same numbers in every run of the test. */
    private int upTo(int most) {
        seed = seed * 6364136223846793005L + 1442695040888963407L;
        return (int) ((seed >>> 33) % (most + 1));
    }
}
