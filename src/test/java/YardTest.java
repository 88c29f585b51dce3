/** Promises 1 to 8: the yard. */
public final class YardTest {
    private static final Checks CHECKS = new Checks();

    private YardTest() {
    }

    public static void main(String[] args) {
        promise1NewObject();
        promise2SetTemperature();
        promise2Refusals();
        promise3Temperature();
        promise4Maturity();
        promise5Strength();
        promise6SetPanels();
        promise7SetRates();
        promise8SetCrew();
        CHECKS.end("YardTest");
    }

    private static void promise1NewObject() {
        FormworkYard yard = new FormworkYard();
        due("pours()", yard.pours(), 0);
        for (int hour = 0; hour < 1000; hour += 111) {
            due("temperature(" + hour + ")", yard.temperature(hour), 20);
            due("need(" + hour + ")", yard.need(hour), 0);
        }
        due("peak()", yard.peak(), 0);
        due("peakByOverlaps()", yard.peakByOverlaps(), 0);
        due("firstShort()", yard.firstShort(), FormworkYard.NONE);
        due("NONE", FormworkYard.NONE, -1);
        due("setPanels(1)", yard.setPanels(1), 20);
        due("plan(10, 10, 8, 25)", yard.plan(10, 10, 8, 25), 0);
        due("endOf(0) at rate 10", yard.endOf(0), 11);
        due("plan(10, 11, 8, 25)", yard.plan(10, 11, 8, 25), 1);
        due("endOf(1) at rate 10", yard.endOf(1), 12);
        due("need(7) ahead of a set-up of 2 hours", yard.need(7), 0);
        due("need(8)", yard.need(8), 16);
        due("freeFrom(0) behind 3 hours of cleaning", yard.freeFrom(0) - yard.struck(0), 3);
        due("pours() of another yard", new FormworkYard().pours(), 0);
    }

    private static void promise2SetTemperature() {
        FormworkYard yard = new FormworkYard();
        yard.setTemperature(5, 9, 30);
        yard.setTemperature(12, 12, -40);
        yard.setTemperature(0, 0, 50);
        yard.setTemperature(999, 999, -1);
        int[] hours = {0, 1, 4, 5, 7, 9, 10, 11, 12, 13, 998, 999};
        int[] wanted = {50, 20, 20, 30, 30, 30, 20, 20, -40, 20, 20, -1};
        for (int i = 0; i < hours.length; i++) {
            due("temperature(" + hours[i] + ")", yard.temperature(hours[i]), wanted[i]);
        }
        yard.setTemperature(0, 999, 0);
        for (int hour = 0; hour < 1000; hour += 27) {
            due("temperature(" + hour + ") of all", yard.temperature(hour), 0);
        }
        // 10 an hour: 500 in 50 hours
        yard.plan(0, 10, 1, 25);
        due("struck(0) at 0 degrees", yard.struck(0), 51);
        yard.setTemperature(1, 10, 30);
        due("struck(0) with ten hours at 30 degrees", yard.struck(0), 21);
    }

    private static void promise2Refusals() {
        Class<IndexOutOfBoundsException> index = IndexOutOfBoundsException.class;
        Class<IllegalArgumentException> argument = IllegalArgumentException.class;
        unchanged("setTemperature(-1, 5, 10)", index, y -> y.setTemperature(-1, 5, 10));
        unchanged("setTemperature(5, 1000, 10)", index, y -> y.setTemperature(5, 1000, 10));
        unchanged("setTemperature(1000, 1000, 10)", index, y -> y.setTemperature(1000, 1000, 10));
        unchanged("setTemperature(5, -1, 10)", index, y -> y.setTemperature(5, -1, 10));
        unchanged("setTemperature(1000, 5, 60)", index, y -> y.setTemperature(1000, 5, 60));
        unchanged("setTemperature(5, -1, 60)", index, y -> y.setTemperature(5, -1, 60));
        unchanged("setTemperature(min, max, 10)", index,
                y -> y.setTemperature(Integer.MIN_VALUE, Integer.MAX_VALUE, 10));
        unchanged("setTemperature(6, 5, 10)", argument, y -> y.setTemperature(6, 5, 10));
        unchanged("setTemperature(999, 0, 10)", argument, y -> y.setTemperature(999, 0, 10));
        unchanged("setTemperature(5, 6, -41)", argument, y -> y.setTemperature(5, 6, -41));
        unchanged("setTemperature(5, 6, 51)", argument, y -> y.setTemperature(5, 6, 51));
        unchanged("setTemperature(0, 999, max)", argument,
                y -> y.setTemperature(0, 999, Integer.MAX_VALUE));
    }

    private static void promise3Temperature() {
        FormworkYard yard = new FormworkYard();
        yard.setTemperature(0, 0, -3);
        yard.setTemperature(999, 999, 4);
        due("temperature(0)", yard.temperature(0), -3);
        due("temperature(999)", yard.temperature(999), 4);
        Class<IndexOutOfBoundsException> index = IndexOutOfBoundsException.class;
        unchanged("temperature(-1)", index, y -> y.temperature(-1));
        unchanged("temperature(1000)", index, y -> y.temperature(1000));
        unchanged("temperature(min)", index, y -> y.temperature(Integer.MIN_VALUE));
        unchanged("temperature(max)", index, y -> y.temperature(Integer.MAX_VALUE));
    }

    private static void promise4Maturity() {
        FormworkYard yard = new FormworkYard();
        due("maturity(0, 999)", yard.maturity(0, 999), 29970);
        due("maturity(3, 4)", yard.maturity(3, 4), 30);
        due("maturity(4, 4)", yard.maturity(4, 4), 0);
        due("maturity(5, 4)", yard.maturity(5, 4), 0);
        due("maturity(999, 0)", yard.maturity(999, 0), 0);
        yard.setTemperature(10, 10, -10);
        yard.setTemperature(11, 11, -11);
        yard.setTemperature(12, 12, -9);
        yard.setTemperature(13, 13, 50);
        yard.setTemperature(14, 14, -40);
        due("maturity(10, 11)", yard.maturity(10, 11), 0);
        due("maturity(10, 12)", yard.maturity(10, 12), 0);
        due("maturity(10, 13)", yard.maturity(10, 13), 1);
        due("maturity(10, 14)", yard.maturity(10, 14), 61);
        due("maturity(10, 15)", yard.maturity(10, 15), 61);
        due("maturity(9, 16)", yard.maturity(9, 16), 121);
        Class<IndexOutOfBoundsException> index = IndexOutOfBoundsException.class;
        unchanged("maturity(-1, 5)", index, y -> y.maturity(-1, 5));
        unchanged("maturity(5, -1)", index, y -> y.maturity(5, -1));
        unchanged("maturity(1000, 5)", index, y -> y.maturity(1000, 5));
        unchanged("maturity(5, 1000)", index, y -> y.maturity(5, 1000));
    }

    private static void promise5Strength() {
        FormworkYard yard = new FormworkYard();
        int[] maturities = {0, 19, 20, 39, 40, 499, 500, 527, 528, 1199, 1200, 1251, 1252, 2499,
            2500, 2599, 2600, 4999, 5000, 5001, 999999, 1000000};
        int[] strengths = {0, 0, 1, 1, 2, 24, 25, 25, 26, 49, 50, 50, 51, 74,
            75, 75, 76, 99, 100, 100, 100, 100};
        for (int i = 0; i < maturities.length; i++) {
            due("strength(" + maturities[i] + ")", yard.strength(maturities[i]), strengths[i]);
        }
        Class<IllegalArgumentException> argument = IllegalArgumentException.class;
        unchanged("strength(-1)", argument, y -> y.strength(-1));
        unchanged("strength(1000001)", argument, y -> y.strength(1000001));
        unchanged("strength(min)", argument, y -> y.strength(Integer.MIN_VALUE));
        unchanged("strength(max)", argument, y -> y.strength(Integer.MAX_VALUE));
    }

    private static void promise6SetPanels() {
        FormworkYard yard = new FormworkYard();
        due("setPanels(0)", yard.setPanels(0), 20);
        due("setPanels(60)", yard.setPanels(60), 0);
        due("setPanels(60) again", yard.setPanels(60), 60);
        due("setPanels(5)", yard.setPanels(5), 60);
        yard.plan(0, 10, 8, 10);
        due("panelsOf(0) with 5", yard.panelsOf(0), 5);
        due("firstShort() with 5", yard.firstShort(), 0);
        yard.setPanels(8);
        due("panelsOf(0) with 8", yard.panelsOf(0), 8);
        due("firstShort() with 8", yard.firstShort(), FormworkYard.NONE);
        Class<IllegalArgumentException> argument = IllegalArgumentException.class;
        unchanged("setPanels(-1)", argument, y -> y.setPanels(-1));
        unchanged("setPanels(61)", argument, y -> y.setPanels(61));
        unchanged("setPanels(max)", argument, y -> y.setPanels(Integer.MAX_VALUE));
    }

    private static void promise7SetRates() {
        FormworkYard yard = new FormworkYard();
        yard.plan(5, 100, 1, 25);
        yard.delay(0, 50, 2);
        due("endOf(0) at first", yard.endOf(0), 17);
        due("setRates(50, 1)", yard.setRates(50, 1), 1);
        due("endOf(0) at rate 1", yard.endOf(0), 107);
        due("setRates(1, 50)", yard.setRates(1, 50), 1);
        due("setRates(50, 50)", yard.setRates(50, 50), 50);
        due("endOf(0) at rate 50", yard.endOf(0), 9);
        due("setRates(7, 9)", yard.setRates(7, 9), 7);
        due("endOf(0) at rate 7", yard.endOf(0), 22);
        // 500 are there 17 hours later
        due("struck(0) at rate 7", yard.struck(0), 39);
        due("setRates(9, 7)", yard.setRates(9, 7), 7);
        due("setRates(8, 8)", yard.setRates(8, 8), 8);
        Class<IllegalArgumentException> argument = IllegalArgumentException.class;
        unchanged("setRates(0, 5)", argument, y -> y.setRates(0, 5));
        unchanged("setRates(5, 0)", argument, y -> y.setRates(5, 0));
        unchanged("setRates(51, 5)", argument, y -> y.setRates(51, 5));
        unchanged("setRates(5, 51)", argument, y -> y.setRates(5, 51));
        unchanged("setRates(-1, -1)", argument, y -> y.setRates(-1, -1));
    }

    private static void promise8SetCrew() {
        FormworkYard yard = new FormworkYard();
        yard.plan(30, 10, 4, 25);
        yard.setCrew(0, 0);
        due("need(29) without set-up", yard.need(29), 0);
        due("need(30) without set-up", yard.need(30), 4);
        due("freeFrom(0) without cleaning", yard.freeFrom(0), 48);
        yard.setCrew(24, 24);
        due("need(5) with 24 hours of set-up", yard.need(5), 0);
        due("need(6) with 24 hours of set-up", yard.need(6), 4);
        due("freeFrom(0) with 24 hours of cleaning", yard.freeFrom(0), 72);
        yard.setCrew(1, 7);
        due("need(28)", yard.need(28), 0);
        due("need(29)", yard.need(29), 4);
        due("freeFrom(0)", yard.freeFrom(0), 55);
        due("struck(0)", yard.struck(0), 48);
        Class<IllegalArgumentException> argument = IllegalArgumentException.class;
        unchanged("setCrew(-1, 5)", argument, y -> y.setCrew(-1, 5));
        unchanged("setCrew(5, -1)", argument, y -> y.setCrew(5, -1));
        unchanged("setCrew(25, 5)", argument, y -> y.setCrew(25, 5));
        unchanged("setCrew(5, 25)", argument, y -> y.setCrew(5, 25));
    }

    private static void due(String call, long got, long want) {
        CHECKS.due(call, got, want);
    }

    private static void unchanged(String call, Class<? extends RuntimeException> due,
            Checks.Change change) {
        CHECKS.refusedUnchanged(call, due, change);
    }
}
