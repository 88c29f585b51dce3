import java.util.NoSuchElementException;

/** The sentences of promises 1 to 8. */
final class EdgesOfYard {
    private static final int NONE = FormworkYard.NONE;
    private static final Class<IndexOutOfBoundsException> INDEX = IndexOutOfBoundsException.class;
    private static final Class<IllegalArgumentException> ARGUMENT = IllegalArgumentException.class;
    private static final Class<NoSuchElementException> MISSING = NoSuchElementException.class;

    private final Checks checks;

    EdgesOfYard(Checks checks) {
        this.checks = checks;
    }

    void testAll(Sentences promises) {
        testNewObject(promises);
        testSetTemperature(promises);
        testTemperature(promises);
        testMaturity(promises);
        testStrength(promises);
        testSetPanels(promises);
        testSetRates(promises);
        testSetCrew(promises);
    }

    private void testNewObject(Sentences promises) {
        promises.section("Promise 1");
        promises.sentence("Begins without pours.", this::newObject);
    }

    private void newObject() {
        FormworkYard yard = new FormworkYard();
        due("pours()", yard.pours(), 0);
        for (int number = 0; number < 10; number++) {
            int asked = number;
            checks.refused("endOf(" + number + ")", MISSING, () -> yard.endOf(asked));
        }
        int[] hours = {0, 1, 500, 998, 999};
        for (int hour : hours) {
            due("need(" + hour + ")", yard.need(hour), 0);
            due("pourOf(0, " + hour + ")", yard.pourOf(0, hour), NONE);
            due("pourOf(19, " + hour + ")", yard.pourOf(19, hour), NONE);
        }
        due("peak()", yard.peak(), 0);
        due("peakByOverlaps()", yard.peakByOverlaps(), 0);
        due("firstShort()", yard.firstShort(), NONE);
        due("earliest(0, 1, 20, 1)", yard.earliest(0, 1, 20, 1), 0);
        FormworkYard other = Yards.ten();
        due("pours() of another", other.pours(), 10);
        due("pours(), another having ten", yard.pours(), 0);
        for (int number = 0; number < 10; number++) {
            due("plan", yard.plan(5, 5, 5, 5), number);
        }
    }

    // ---- promise 2

    private void testSetTemperature(Sentences promises) {
        promises.section("Promise 2");
        promises.sentence("Sets the temperature of all hours from one to another one, both with.",
                this::hoursSet);
        promises.sentence("- `temperature`: -40 to 50", this::temperaturesTaken);
        promises.sentence("Throws `IndexOutOfBoundsException` if from or to is not 0 to 999",
                this::hoursRefused);
        promises.sentence("Throws `IllegalArgumentException` if to is less than from, or temperature is "
                + "out of range", this::temperaturesRefused);
    }

    private void hoursSet() {
        hoursSet(0, 0);
        hoursSet(0, 1);
        hoursSet(0, 998);
        hoursSet(0, 999);
        hoursSet(1, 998);
        hoursSet(1, 999);
        hoursSet(500, 500);
        hoursSet(500, 501);
        hoursSet(998, 999);
        hoursSet(999, 999);
        FormworkYard yard = new FormworkYard();
        yard.setTemperature(10, 19, 1);
        yard.setTemperature(15, 24, 2);
        due("temperature(14)", yard.temperature(14), 1);
        due("temperature(15), set again", yard.temperature(15), 2);
        due("temperature(24)", yard.temperature(24), 2);
        due("temperature(25)", yard.temperature(25), 20);
    }

    private void hoursSet(int from, int to) {
        FormworkYard yard = new FormworkYard();
        yard.setTemperature(from, to, 5);
        int[] hours = {0, 1, from - 1, from, from + 1, (from + to) / 2, to - 1, to, to + 1, 998, 999};
        for (int hour : hours) {
            if (hour >= 0 && hour <= 999) {
                due("temperature(" + hour + ") behind setTemperature(" + from + ", " + to + ", 5)",
                        yard.temperature(hour), hour < from || hour > to ? 20 : 5);
            }
        }
        due("maturity(0, 999) behind setTemperature(" + from + ", " + to + ", 5)",
                yard.maturity(0, 999), 999 * 30 - 15 * (Math.min(to, 998) - from + 1));
    }

    private void temperaturesTaken() {
        FormworkYard yard = new FormworkYard();
        int[] temperatures = {-40, -39, -11, -10, -9, -1, 0, 1, 49, 50};
        for (int temperature : temperatures) {
            yard.setTemperature(3, 3, temperature);
            due("temperature(3)", yard.temperature(3), temperature);
        }
        checks.range("setTemperature(0, 999, ?)", -40, 50, ARGUMENT,
                (y, temperature) -> y.setTemperature(0, 999, temperature));
        checks.range("setTemperature(5, 5, ?)", -40, 50, ARGUMENT,
                (y, temperature) -> y.setTemperature(5, 5, temperature));
    }

    private void hoursRefused() {
        checks.range("setTemperature(?, 999, 10)", 0, 999, INDEX,
                (y, from) -> y.setTemperature(from, 999, 10));
        checks.range("setTemperature(0, ?, 10)", 0, 999, INDEX,
                (y, to) -> y.setTemperature(0, to, 10));
        checks.range("setTemperature(?, ?, 10)", 0, 999, INDEX,
                (y, hour) -> y.setTemperature(hour, hour, 10));
        unchanged("setTemperature(-1, 1000, 10)", INDEX, y -> y.setTemperature(-1, 1000, 10));
        unchanged("setTemperature(1000, -1, 10)", INDEX, y -> y.setTemperature(1000, -1, 10));
        unchanged("setTemperature(1000, 999, 10)", INDEX, y -> y.setTemperature(1000, 999, 10));
        unchanged("setTemperature(0, -1, 10)", INDEX, y -> y.setTemperature(0, -1, 10));
        unchanged("setTemperature(1000, 1000, 51)", INDEX, y -> y.setTemperature(1000, 1000, 51));
        unchanged("setTemperature(-1, 5, -41)", INDEX, y -> y.setTemperature(-1, 5, -41));
        unchanged("setTemperature(max, min, 10)", INDEX,
                y -> y.setTemperature(Integer.MAX_VALUE, Integer.MIN_VALUE, 10));
    }

    private void temperaturesRefused() {
        unchanged("setTemperature(1, 0, 10)", ARGUMENT, y -> y.setTemperature(1, 0, 10));
        unchanged("setTemperature(6, 5, 10)", ARGUMENT, y -> y.setTemperature(6, 5, 10));
        unchanged("setTemperature(999, 998, 10)", ARGUMENT, y -> y.setTemperature(999, 998, 10));
        unchanged("setTemperature(999, 0, 10)", ARGUMENT, y -> y.setTemperature(999, 0, 10));
        unchanged("setTemperature(6, 5, 51)", ARGUMENT, y -> y.setTemperature(6, 5, 51));
        unchanged("setTemperature(6, 5, -41)", ARGUMENT, y -> y.setTemperature(6, 5, -41));
        unchanged("setTemperature(0, 999, 51)", ARGUMENT, y -> y.setTemperature(0, 999, 51));
        unchanged("setTemperature(0, 999, -41)", ARGUMENT, y -> y.setTemperature(0, 999, -41));
        checks.taken("setTemperature(6, 6, 50)", () -> Yards.busy().setTemperature(6, 6, 50));
        checks.taken("setTemperature(6, 6, -40)", () -> Yards.busy().setTemperature(6, 6, -40));
    }

    // ---- promises 3 to 5

    private void testTemperature(Sentences promises) {
        promises.section("Promise 3");
        promises.sentence("Returns the temperature of an hour.", this::temperatures);
        promises.sentence("Throws `IndexOutOfBoundsException` if hour is not 0 to 999",
                () -> checks.range("temperature(?)", 0, 999, INDEX, (y, hour) -> y.temperature(hour)));
    }

    private void temperatures() {
        FormworkYard yard = new FormworkYard();
        int[] hours = {0, 1, 499, 998, 999};
        for (int hour : hours) {
            yard.setTemperature(hour, hour, hour % 50 - 40);
        }
        for (int hour : hours) {
            due("temperature(" + hour + ")", yard.temperature(hour), hour % 50 - 40);
        }
        due("temperature(2)", yard.temperature(2), 20);
        due("temperature(997)", yard.temperature(997), 20);
    }

    private void testMaturity(Sentences promises) {
        promises.section("Promise 4");
        promises.sentence("Returns the maturity from an hour to another one.", this::maturities);
        promises.sentence("Throws `IndexOutOfBoundsException` if from or to is not 0 to 999",
                this::maturitiesRefused);
    }

    private void maturities() {
        FormworkYard yard = new FormworkYard();
        int[] edges = {0, 1, 2, 997, 998, 999};
        for (int from : edges) {
            for (int to : edges) {
                due("maturity(" + from + ", " + to + ")", yard.maturity(from, to),
                        to > from ? 30 * (to - from) : 0);
            }
        }
        yard.setTemperature(0, 999, 50);
        due("maturity(0, 999), the greatest", yard.maturity(0, 999), 59940);
        yard.setTemperature(0, 999, -10);
        due("maturity(0, 999), the least", yard.maturity(0, 999), 0);
        yard.setTemperature(0, 999, -9);
        due("maturity(0, 999), one an hour", yard.maturity(0, 999), 999);
    }

    private void maturitiesRefused() {
        checks.range("maturity(?, 5)", 0, 999, INDEX, (y, from) -> y.maturity(from, 5));
        checks.range("maturity(5, ?)", 0, 999, INDEX, (y, to) -> y.maturity(5, to));
        unchanged("maturity(-1, 1000)", INDEX, y -> y.maturity(-1, 1000));
        unchanged("maturity(1000, -1)", INDEX, y -> y.maturity(1000, -1));
        unchanged("maturity(1000, 1000)", INDEX, y -> y.maturity(1000, 1000));
        unchanged("maturity(1000, 999), the other one not being later", INDEX,
                y -> y.maturity(1000, 999));
    }

    private void testStrength(Sentences promises) {
        promises.section("Promise 5");
        promises.sentence("Returns the strength at a maturity.", this::strengths);
        promises.sentence("- `maturity`: 0 to 1000000", () -> {
            FormworkYard yard = new FormworkYard();
            due("strength(0)", yard.strength(0), 0);
            due("strength(1)", yard.strength(1), 0);
            due("strength(999999)", yard.strength(999999), 100);
            due("strength(1000000)", yard.strength(1000000), 100);
        });
        promises.sentence("Returns 0 to 100.", this::everyStrength);
        promises.sentence("Throws `IllegalArgumentException` if maturity is out of range",
                () -> checks.range("strength(?)", 0, 1000000, ARGUMENT, (y, value) -> y.strength(value)));
    }

    private void strengths() {
        FormworkYard yard = new FormworkYard();
        int[] maturities = {19, 20, 499, 500, 501, 527, 528, 1199, 1200, 1201, 1251, 1252, 1850,
            2499, 2500, 2501, 2599, 2600, 4899, 4900, 4999, 5000, 5001};
        int[] wanted = {0, 1, 24, 25, 25, 25, 26, 49, 50, 50, 50, 51, 62,
            74, 75, 75, 75, 76, 98, 99, 99, 100, 100};
        for (int i = 0; i < maturities.length; i++) {
            due("strength(" + maturities[i] + ")", yard.strength(maturities[i]), wanted[i]);
        }
        yard.setTemperature(0, 999, -40);
        due("strength(20), whatever the temperature", yard.strength(20), 1);
    }

    /** From 0 on, each maturity gives the strength of the one ahead of it or one more, up to 100. */
    private void everyStrength() {
        int before = 0;
        int falls = 0;
        for (int from = 0; from < 5100; from += 500) {
            FormworkYard yard = new FormworkYard();
            for (int maturity = from; maturity < from + 500; maturity++) {
                int strength = yard.strength(maturity);
                falls += strength == before || strength == before + 1 ? 0 : 1;
                before = strength;
            }
        }
        due("maturities whose strength falls or leaps", falls, 0);
        due("the last strength", before, 100);
    }

    // ---- promises 6 to 8

    private void testSetPanels(Sentences promises) {
        promises.section("Promise 6");
        promises.sentence("Sets how many panels the yard has.", this::panelsSet);
        promises.sentence("- `panels`: 0 to 60", this::panelsTaken);
        promises.sentence("Returns how many it had before.", this::panelsBefore);
        promises.sentence("Throws `IllegalArgumentException` if panels is out of range",
                () -> checks.range("setPanels(?)", 0, 60, ARGUMENT, (y, value) -> y.setPanels(value)));
    }

    private void panelsSet() {
        FormworkYard yard = new FormworkYard();
        yard.plan(10, 10, 8, 25);
        int[] panels = {0, 1, 7, 8, 9, 60};
        int[] got = {0, 1, 7, 8, 8, 8};
        int[] firstShort = {8, 8, 8, NONE, NONE, NONE};
        for (int i = 0; i < panels.length; i++) {
            yard.setPanels(panels[i]);
            due("panelsOf(0) with " + panels[i], yard.panelsOf(0), got[i]);
            due("firstShort() with " + panels[i], yard.firstShort(), firstShort[i]);
            due("need(10) with " + panels[i], yard.need(10), 8);
        }
    }

    private void panelsTaken() {
        FormworkYard yard = new FormworkYard();
        yard.setPanels(0);
        checks.refused("pourOf(0, 5) without panels", INDEX, () -> yard.pourOf(0, 5));
        yard.setPanels(1);
        due("pourOf(0, 5) with 1", yard.pourOf(0, 5), NONE);
        checks.refused("pourOf(1, 5) with 1", INDEX, () -> yard.pourOf(1, 5));
        yard.setPanels(60);
        due("pourOf(59, 5) with 60", yard.pourOf(59, 5), NONE);
        checks.refused("pourOf(60, 5) with 60", INDEX, () -> yard.pourOf(60, 5));
        checks.refused("setPanels(61)", ARGUMENT, () -> yard.setPanels(61));
        checks.refused("setPanels(-1)", ARGUMENT, () -> yard.setPanels(-1));
        due("setPanels(60) behind refused ones", yard.setPanels(60), 60);
    }

    private void panelsBefore() {
        FormworkYard yard = new FormworkYard();
        int[] panels = {0, 60, 60, 1, 0, 0, 59};
        int before = 20;
        for (int count : panels) {
            due("setPanels(" + count + ")", yard.setPanels(count), before);
            before = count;
        }
    }

    private void testSetRates(Sentences promises) {
        promises.section("Promise 7");
        promises.sentence("Sets what trucks bring and what the pump takes in an hour.", this::ratesSet);
        promises.sentence("- `trucks`: 1 to 50", () -> {
            FormworkYard yard = new FormworkYard();
            due("setRates(1, 50)", yard.setRates(1, 50), 1);
            due("setRates(50, 50)", yard.setRates(50, 50), 50);
            checks.range("setRates(?, 25)", 1, 50, ARGUMENT, (y, trucks) -> y.setRates(trucks, 25));
        });
        promises.sentence("- `pump`: 1 to 50", () -> {
            FormworkYard yard = new FormworkYard();
            due("setRates(50, 1)", yard.setRates(50, 1), 1);
            due("setRates(50, 50)", yard.setRates(50, 50), 50);
            checks.range("setRates(25, ?)", 1, 50, ARGUMENT, (y, pump) -> y.setRates(25, pump));
        });
        promises.sentence("Returns the rate then.", this::ratesThen);
        promises.sentence("Throws `IllegalArgumentException` if trucks or pump is out of range",
                this::ratesRefused);
    }

    private void ratesSet() {
        FormworkYard yard = new FormworkYard();
        yard.plan(100, 200, 1, 1);
        yard.delay(0, 199, 2);
        yard.setTemperature(0, 999, -10);
        int[] rates = {1, 2, 49, 50};
        int[] ends = {302, 202, 107, 106};
        int[] begins = {299, 199, 104, 103};
        for (int i = 0; i < rates.length; i++) {
            yard.setRates(rates[i], 50);
            due("endOf(0) at " + rates[i] + " and 50", yard.endOf(0), ends[i]);
            yard.setRates(50, rates[i]);
            due("endOf(0) at 50 and " + rates[i], yard.endOf(0), ends[i]);
            Yards.warm(yard, begins[i], begins[i] + 1);
            due("coldJoints(0) at 50 and " + rates[i], yard.coldJoints(0), 1);
            Yards.warm(yard, ends[i]);
            due("struck(0) at 50 and " + rates[i], yard.struck(0), ends[i] + 1);
            yard.setTemperature(0, 999, -10);
        }
    }

    private void ratesThen() {
        FormworkYard yard = new FormworkYard();
        int[] edges = {1, 2, 25, 49, 50};
        for (int trucks : edges) {
            for (int pump : edges) {
                due("setRates(" + trucks + ", " + pump + ")", yard.setRates(trucks, pump),
                        trucks < pump ? trucks : pump);
            }
        }
    }

    private void ratesRefused() {
        checks.range("setRates(?, 1)", 1, 50, ARGUMENT, (y, trucks) -> y.setRates(trucks, 1));
        checks.range("setRates(1, ?)", 1, 50, ARGUMENT, (y, pump) -> y.setRates(1, pump));
        checks.range("setRates(?, ?)", 1, 50, ARGUMENT, (y, both) -> y.setRates(both, both));
        unchanged("setRates(0, 51)", ARGUMENT, y -> y.setRates(0, 51));
        unchanged("setRates(51, 0)", ARGUMENT, y -> y.setRates(51, 0));
    }

    private void testSetCrew(Sentences promises) {
        promises.section("Promise 8");
        promises.sentence("Sets the hours of set-up and of cleaning.", this::crewSet);
        promises.sentence("- `setUp`: 0 to 24", () -> {
            stands(0, 30);
            stands(1, 29);
            stands(23, 7);
            stands(24, 6);
            checks.range("setCrew(?, 5)", 0, 24, ARGUMENT, (y, setUp) -> y.setCrew(setUp, 5));
        });
        promises.sentence("- `cleaning`: 0 to 24", () -> {
            isFree(0, 32);
            isFree(1, 33);
            isFree(23, 55);
            isFree(24, 56);
            checks.range("setCrew(5, ?)", 0, 24, ARGUMENT, (y, cleaning) -> y.setCrew(5, cleaning));
        });
        promises.sentence("Throws `IllegalArgumentException` if setUp or cleaning is out of range",
                this::crewRefused);
    }

    private void crewSet() {
        FormworkYard yard = new FormworkYard();
        yard.plan(30, 10, 4, 1);
        due("need(27) at first", yard.need(27), 0);
        due("need(28) at first", yard.need(28), 4);
        due("freeFrom(0) at first", yard.freeFrom(0), 35);
        yard.setCrew(24, 0);
        due("need(6)", yard.need(6), 4);
        due("freeFrom(0)", yard.freeFrom(0), 32);
        yard.setCrew(0, 24);
        due("need(29)", yard.need(29), 0);
        due("freeFrom(0)", yard.freeFrom(0), 56);
        due("endOf(0)", yard.endOf(0), 31);
        due("struck(0)", yard.struck(0), 32);
        yard.plan(30, 10, 4, 1);
        due("freeFrom(1), planned later", yard.freeFrom(1), 56);
    }

    private void stands(int setUp, int hour) {
        FormworkYard yard = new FormworkYard();
        yard.plan(30, 10, 4, 1);
        yard.setCrew(setUp, 3);
        due("need(" + hour + "), set-up " + setUp, yard.need(hour), 4);
        due("need(" + (hour - 1) + "), set-up " + setUp, yard.need(hour - 1), 0);
    }

    private void isFree(int cleaning, int hour) {
        FormworkYard yard = new FormworkYard();
        yard.plan(30, 10, 4, 1);
        yard.setCrew(2, cleaning);
        due("freeFrom(0), cleaning " + cleaning, yard.freeFrom(0), hour);
        due("need(" + (hour - 1) + "), cleaning " + cleaning, yard.need(hour - 1), 4);
        due("need(" + hour + "), cleaning " + cleaning, yard.need(hour), 0);
    }

    private void crewRefused() {
        checks.range("setCrew(?, 0)", 0, 24, ARGUMENT, (y, setUp) -> y.setCrew(setUp, 0));
        checks.range("setCrew(0, ?)", 0, 24, ARGUMENT, (y, cleaning) -> y.setCrew(0, cleaning));
        checks.range("setCrew(?, ?)", 0, 24, ARGUMENT, (y, both) -> y.setCrew(both, both));
        unchanged("setCrew(-1, 25)", ARGUMENT, y -> y.setCrew(-1, 25));
        unchanged("setCrew(25, -1)", ARGUMENT, y -> y.setCrew(25, -1));
    }

    private void due(String call, long got, long want) {
        checks.due(call, got, want);
    }

    private void unchanged(String call, Class<? extends RuntimeException> due,
            Checks.Change change) {
        checks.refusedUnchanged(call, due, change);
    }
}
