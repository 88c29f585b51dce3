import java.util.NoSuchElementException;

/** The sentences of promises 9 to 17. */
final class EdgesOfPours {
    private static final int NONE = FormworkYard.NONE;
    private static final String NO_SUCH_POUR =
            "Throws `java` .util.NoSuchElementException if there is no such pour";
    private static final Class<IllegalArgumentException> ARGUMENT = IllegalArgumentException.class;
    private static final Class<IllegalStateException> STATE = IllegalStateException.class;
    private static final Class<NoSuchElementException> MISSING = NoSuchElementException.class;

    private final Checks checks;

    EdgesOfPours(Checks checks) {
        this.checks = checks;
    }

    void testAll(Sentences promises) {
        testPlan(promises);
        testMove(promises);
        testCancel(promises);
        testDelay(promises);
        testPoursAndEnds(promises);
        testColdJoints(promises);
        testStruck(promises);
        testFreeFrom(promises);
    }

    // ---- promise 9

    private void testPlan(Sentences promises) {
        promises.section("Promise 9");
        promises.sentence("Plans a pour, whether there are panels for it or not.", this::planned);
        promises.sentence("- `start`: 0 to 900", this::startsPlanned);
        promises.sentence("- `volume`: 1 to 200", this::volumesPlanned);
        promises.sentence("- `panels`: 1 to 30", this::panelsPlanned);
        promises.sentence("- `strength`: 1 to 100", this::strengthsPlanned);
        promises.sentence("Returns its number.", this::numbers);
        promises.sentence("Throws `IllegalArgumentException` if start, volume, panels or strength is out "
                + "of range", this::plansRefused);
        promises.sentence("Throws `IllegalStateException` if there are 10", this::eleventhRefused);
    }

    private void planned() {
        FormworkYard yard = new FormworkYard();
        yard.setPanels(0);
        due("plan(10, 10, 30, 25) without panels", yard.plan(10, 10, 30, 25), 0);
        due("need(10)", yard.need(10), 30);
        due("panelsOf(0)", yard.panelsOf(0), 0);
        yard.setPanels(30);
        due("panelsOf(0) with 30", yard.panelsOf(0), 30);
        due("plan(10, 10, 1, 25), no panel being left", yard.plan(10, 10, 1, 25), 1);
        due("need(10) with both", yard.need(10), 31);
        due("panelsOf(1)", yard.panelsOf(1), 0);
        due("pours()", yard.pours(), 2);
    }

    private void startsPlanned() {
        FormworkYard yard = new FormworkYard();
        yard.plan(0, 1, 1, 1);
        yard.plan(900, 1, 1, 1);
        due("endOf(0)", yard.endOf(0), 1);
        due("struck(0)", yard.struck(0), 2);
        due("need(0)", yard.need(0), 1);
        due("endOf(1)", yard.endOf(1), 901);
        due("struck(1)", yard.struck(1), 902);
        due("need(897)", yard.need(897), 0);
        due("need(898)", yard.need(898), 1);
        due("move(0, 5)", yard.move(0, 5), 0);
        due("move(1, 5)", yard.move(1, 5), 900);
        checks.range("plan(?, 5, 5, 5)", 0, 900, ARGUMENT, (y, start) -> y.plan(start, 5, 5, 5));
    }

    private void volumesPlanned() {
        FormworkYard yard = new FormworkYard();
        yard.setRates(1, 1);
        yard.plan(5, 1, 1, 1);
        yard.plan(5, 200, 1, 1);
        due("endOf(0) at rate 1", yard.endOf(0), 6);
        due("endOf(1) at rate 1", yard.endOf(1), 205);
        checks.range("plan(5, ?, 5, 5)", 1, 200, ARGUMENT, (y, volume) -> y.plan(5, volume, 5, 5));
    }

    private void panelsPlanned() {
        FormworkYard yard = new FormworkYard();
        yard.plan(5, 5, 1, 5);
        due("need(5) of 1", yard.need(5), 1);
        due("cancel(0)", yard.cancel(0), 1);
        yard.plan(5, 5, 30, 5);
        due("need(5) of 30", yard.need(5), 30);
        due("cancel(0)", yard.cancel(0), 30);
        checks.range("plan(5, 5, ?, 5)", 1, 30, ARGUMENT, (y, panels) -> y.plan(5, 5, panels, 5));
    }

    private void strengthsPlanned() {
        FormworkYard yard = new FormworkYard();
        yard.plan(5, 5, 5, 1);
        yard.plan(5, 5, 5, 100);
        due("struck(0) of strength 1", yard.struck(0), 7);
        // 5000 in 167 hours of 30
        due("struck(1) of strength 100", yard.struck(1), 173);
        checks.range("plan(5, 5, 5, ?)", 1, 100, ARGUMENT, (y, strength) -> y.plan(5, 5, 5, strength));
    }

    private void numbers() {
        FormworkYard yard = new FormworkYard();
        due("plan, the first one", yard.plan(5, 5, 5, 5), 0);
        yard.cancel(0);
        due("plan, the first one again", yard.plan(5, 5, 5, 5), 0);
        for (int number = 1; number < 10; number++) {
            due("plan", yard.plan(5 + number, 5, 5, 5), number);
        }
        for (int number = 0; number < 10; number++) {
            due("endOf(" + number + ")", yard.endOf(number), 6 + number);
        }
        yard.cancel(8);
        yard.cancel(1);
        due("plan, 1 and 8 being free", yard.plan(50, 5, 5, 5), 1);
        due("plan, 8 being free", yard.plan(60, 5, 5, 5), 8);
        due("endOf(1)", yard.endOf(1), 51);
        due("endOf(8)", yard.endOf(8), 61);
    }

    private void plansRefused() {
        unchanged("plan(-1, 201, 5, 5)", ARGUMENT, y -> y.plan(-1, 201, 5, 5));
        unchanged("plan(901, 0, 31, 101)", ARGUMENT, y -> y.plan(901, 0, 31, 101));
        unchanged("plan(0, 0, 0, 0)", ARGUMENT, y -> y.plan(0, 0, 0, 0));
        unchanged("plan(max, max, max, max)", ARGUMENT, y -> y.plan(Integer.MAX_VALUE,
                Integer.MAX_VALUE, Integer.MAX_VALUE, Integer.MAX_VALUE));
        unchanged("plan(min, min, min, min)", ARGUMENT, y -> y.plan(Integer.MIN_VALUE,
                Integer.MIN_VALUE, Integer.MIN_VALUE, Integer.MIN_VALUE));
        FormworkYard yard = new FormworkYard();
        checks.refused("plan(901, 5, 5, 5)", ARGUMENT, () -> yard.plan(901, 5, 5, 5));
        checks.refused("plan(5, 201, 5, 5)", ARGUMENT, () -> yard.plan(5, 201, 5, 5));
        checks.refused("plan(5, 5, 31, 5)", ARGUMENT, () -> yard.plan(5, 5, 31, 5));
        checks.refused("plan(5, 5, 5, 101)", ARGUMENT, () -> yard.plan(5, 5, 5, 101));
        due("pours() behind refused plans", yard.pours(), 0);
        due("plan(900, 200, 30, 100)", yard.plan(900, 200, 30, 100), 0);
    }

    private void eleventhRefused() {
        unchanged("plan(5, 5, 5, 5)", STATE, y -> y.plan(5, 5, 5, 5));
        unchanged("plan(0, 1, 1, 1)", STATE, y -> y.plan(0, 1, 1, 1));
        unchanged("plan(900, 200, 30, 100)", STATE, y -> y.plan(900, 200, 30, 100));
        checks.refusedUnchangedIn(Yards::ten, "plan(5, 5, 5, 5)", STATE, y -> y.plan(5, 5, 5, 5));
        FormworkYard yard = Yards.ten();
        yard.cancel(9);
        due("plan(5, 5, 5, 5), a tenth", yard.plan(5, 5, 5, 5), 9);
        checks.refused("plan(5, 5, 5, 5), an eleventh", STATE, () -> yard.plan(5, 5, 5, 5));
        due("pours()", yard.pours(), 10);
    }

    // ---- promises 10 and 11

    private void testMove(Sentences promises) {
        promises.section("Promise 10");
        promises.sentence("Moves a pour; its breaks stay with it.", this::moved);
        promises.sentence("- `start`: 0 to 900", this::startsMoved);
        promises.sentence("Returns the start before.", this::startsBefore);
        promises.sentence(NO_SUCH_POUR, () -> {
            checks.pourNumbers("move(?, 5)", (y, pour) -> y.move(pour, 5));
            unchanged("move(10, 901)", MISSING, y -> y.move(10, 901));
            unchanged("move(-1, -1)", MISSING, y -> y.move(-1, -1));
        });
        promises.sentence("Throws `IllegalArgumentException` if start is out of range", () -> {
            checks.range("move(1, ?)", 0, 900, ARGUMENT, (y, start) -> y.move(1, start));
            unchanged("move(0, 901), of 4 breaks", ARGUMENT, y -> y.move(0, 901));
            unchanged("move(9, -1)", ARGUMENT, y -> y.move(9, -1));
        });
    }

    private void moved() {
        int[] starts = {0, 1, 500, 886};
        for (int start : starts) {
            FormworkYard yard = Yards.frozen();
            yard.plan(300, 31, 6, 1);
            yard.plan(300, 31, 5, 1);
            int[] hours = {2, 3, 4, 5};
            for (int i = 0; i < hours.length; i++) {
                yard.delay(0, 10 * i, hours[i]);
            }
            yard.move(0, start);
            due("endOf(0) behind move(0, " + start + ")", yard.endOf(0), start + 18);
            Yards.warm(yard, start, start + 1, start + 3, start + 5, start + 7, start + 10,
                    start + 12, start + 16);
            due("coldJoints(0) behind move(0, " + start + ")", yard.coldJoints(0), 4);
            Yards.warm(yard, start + 18);
            due("struck(0) behind move(0, " + start + ")", yard.struck(0), start + 19);
            due("endOf(1) behind move(0, " + start + ")", yard.endOf(1), 304);
            due("need(" + start + ")", yard.need(start), start == 500 || start == 886 ? 11 : 6);
            checks.refused("delay(0, 0, 1), a fifth", STATE, () -> yard.delay(0, 0, 1));
        }
    }

    private void startsMoved() {
        FormworkYard yard = new FormworkYard();
        yard.plan(50, 10, 6, 1);
        yard.move(0, 0);
        due("endOf(0) behind move(0, 0)", yard.endOf(0), 1);
        due("need(0) behind move(0, 0)", yard.need(0), 6);
        due("need(50) behind move(0, 0)", yard.need(50), 0);
        yard.move(0, 900);
        due("endOf(0) behind move(0, 900)", yard.endOf(0), 901);
        due("need(0) behind move(0, 900)", yard.need(0), 0);
        due("need(898) behind move(0, 900)", yard.need(898), 6);
        checks.refused("move(0, 901)", ARGUMENT, () -> yard.move(0, 901));
        checks.refused("move(0, -1)", ARGUMENT, () -> yard.move(0, -1));
        due("endOf(0) behind refused moves", yard.endOf(0), 901);
    }

    private void startsBefore() {
        FormworkYard yard = new FormworkYard();
        yard.plan(50, 10, 6, 1);
        int[] starts = {0, 0, 900, 899, 900, 1};
        int before = 50;
        for (int start : starts) {
            due("move(0, " + start + ")", yard.move(0, start), before);
            before = start;
        }
    }

    private void testCancel(Sentences promises) {
        promises.section("Promise 11");
        promises.sentence("Takes a pour out of the plan.", this::cancelled);
        promises.sentence("Returns how many panels it needed.", this::panelsCancelled);
        promises.sentence(NO_SUCH_POUR, () -> {
            checks.pourNumbers("cancel(?)", (y, pour) -> y.cancel(pour));
            FormworkYard yard = new FormworkYard();
            yard.plan(5, 5, 5, 5);
            yard.cancel(0);
            checks.refused("cancel(0) again", MISSING, () -> yard.cancel(0));
        });
    }

    private void cancelled() {
        FormworkYard yard = Yards.ten();
        for (int pour = 9; pour >= 0; pour--) {
            yard.cancel(pour);
            int asked = pour;
            due("pours()", yard.pours(), pour);
            due("need(50)", yard.need(50), 6 * pour);
            due("peak()", yard.peak(), 6 * pour);
            due("peakByOverlaps()", yard.peakByOverlaps(), 6 * pour);
            checks.refused("endOf(" + pour + ")", MISSING, () -> yard.endOf(asked));
        }
        due("pourOf(0, 50) behind the last cancel", yard.pourOf(0, 50), NONE);
        due("firstShort() behind the last cancel", yard.firstShort(), NONE);
        due("plan", yard.plan(5, 5, 5, 5), 0);
    }

    private void panelsCancelled() {
        FormworkYard yard = new FormworkYard();
        yard.setPanels(0);
        yard.plan(5, 5, 1, 5);
        yard.plan(5, 5, 30, 5);
        yard.plan(5, 5, 29, 5);
        due("cancel(0), which got none", yard.cancel(0), 1);
        due("cancel(1), which got none", yard.cancel(1), 30);
        due("cancel(2), which got none", yard.cancel(2), 29);
    }

    // ---- promise 12

    private void testDelay(Sentences promises) {
        promises.section("Promise 12");
        promises.sentence("Tells a break of a pour.", this::told);
        promises.sentence("- `part`: the part of the volume behind which it comes, 0 to the volume less 1",
                this::partsTold);
        promises.sentence("- `hours`: 1 to 9", this::hoursTold);
        promises.sentence("Returns how many breaks the pour has then.", this::breaksThen);
        promises.sentence(NO_SUCH_POUR, () -> {
            checks.pourNumbers("delay(?, 0, 1)", (y, pour) -> y.delay(pour, 0, 1));
            unchanged("delay(10, -1, 1)", MISSING, y -> y.delay(10, -1, 1));
            unchanged("delay(-1, 0, 10)", MISSING, y -> y.delay(-1, 0, 10));
        });
        promises.sentence("Throws `IllegalArgumentException` if part or hours is out of range",
                this::breaksOutOfRange);
        promises.sentence("Throws `IllegalStateException` if it has 4 breaks", this::fifthRefused);
    }

    private void told() {
        FormworkYard yard = new FormworkYard();
        yard.plan(100, 35, 6, 25);
        yard.plan(100, 35, 5, 25);
        yard.delay(0, 34, 3);
        due("endOf(0)", yard.endOf(0), 107);
        due("struck(0)", yard.struck(0), 124);
        due("freeFrom(0)", yard.freeFrom(0), 127);
        due("need(126)", yard.need(126), 6);
        due("coldJoints(0)", yard.coldJoints(0), 1);
        due("endOf(1), without breaks", yard.endOf(1), 104);
        due("coldJoints(1), without breaks", yard.coldJoints(1), 0);
    }

    private void partsTold() {
        int[] volumes = {1, 2, 10, 200};
        for (int volume : volumes) {
            FormworkYard yard = new FormworkYard();
            yard.plan(5, volume, 5, 5);
            String of = " of volume " + volume;
            int[] refused = {-1, volume, volume + 1, Integer.MIN_VALUE, Integer.MAX_VALUE};
            for (int part : refused) {
                checks.refused("delay(0, " + part + ", 1)" + of, ARGUMENT, () -> yard.delay(0, part, 1));
            }
            due("delay(0, 0, 1)" + of, yard.delay(0, 0, 1), 1);
            due("delay(0, " + (volume - 1) + ", 1)" + of, yard.delay(0, volume - 1, 1), 2);
        }
        // in both yards pour 1 has a volume of 28, pour 3 one of 54
        checks.range("delay(1, ?, 1)", 0, 27, ARGUMENT, (y, part) -> y.delay(1, part, 1));
        checks.range("delay(3, ?, 1)", 0, 53, ARGUMENT, (y, part) -> y.delay(3, part, 1));
    }

    private void hoursTold() {
        int[] hours = {1, 2, 8, 9};
        for (int length : hours) {
            FormworkYard yard = new FormworkYard();
            yard.plan(5, 10, 5, 5);
            yard.delay(0, 0, length);
            due("endOf(0), a break of " + length, yard.endOf(0), 6 + length);
            yard.delay(0, 9, length);
            due("endOf(0), two breaks of " + length, yard.endOf(0), 6 + 2 * length);
        }
        checks.range("delay(1, 0, ?)", 1, 9, ARGUMENT, (y, length) -> y.delay(1, 0, length));
        checks.range("delay(1, 27, ?)", 1, 9, ARGUMENT, (y, length) -> y.delay(1, 27, length));
    }

    private void breaksThen() {
        FormworkYard yard = new FormworkYard();
        yard.plan(5, 10, 5, 5);
        yard.plan(5, 10, 5, 5);
        int[] parts = {9, 0, 9, 0};
        for (int i = 0; i < parts.length; i++) {
            due("delay(0, " + parts[i] + ", 1)", yard.delay(0, parts[i], 1), i + 1);
        }
        due("delay(1, 0, 9), the first one of another pour", yard.delay(1, 0, 9), 1);
        yard.cancel(0);
        yard.plan(5, 10, 5, 5);
        due("delay(0, 0, 1), the first one of a new pour", yard.delay(0, 0, 1), 1);
    }

    private void breaksOutOfRange() {
        // pour 0 has a volume of 15 and 4 breaks
        unchanged("delay(0, -1, 1)", ARGUMENT, y -> y.delay(0, -1, 1));
        unchanged("delay(0, 15, 1)", ARGUMENT, y -> y.delay(0, 15, 1));
        unchanged("delay(0, 0, 0)", ARGUMENT, y -> y.delay(0, 0, 0));
        unchanged("delay(0, 0, 10)", ARGUMENT, y -> y.delay(0, 0, 10));
        unchanged("delay(0, 14, 10)", ARGUMENT, y -> y.delay(0, 14, 10));
        // pour 1 has one of 28 and a break
        unchanged("delay(1, -1, 0)", ARGUMENT, y -> y.delay(1, -1, 0));
        unchanged("delay(1, 28, 10)", ARGUMENT, y -> y.delay(1, 28, 10));
        unchanged("delay(1, 27, -1)", ARGUMENT, y -> y.delay(1, 27, -1));
        unchanged("delay(1, max, max)", ARGUMENT,
                y -> y.delay(1, Integer.MAX_VALUE, Integer.MAX_VALUE));
        unchanged("delay(1, min, min)", ARGUMENT,
                y -> y.delay(1, Integer.MIN_VALUE, Integer.MIN_VALUE));
    }

    private void fifthRefused() {
        unchanged("delay(0, 0, 1)", STATE, y -> y.delay(0, 0, 1));
        unchanged("delay(0, 14, 9)", STATE, y -> y.delay(0, 14, 9));
        unchanged("delay(0, 7, 5)", STATE, y -> y.delay(0, 7, 5));
        FormworkYard yard = new FormworkYard();
        yard.plan(5, 10, 5, 5);
        yard.delay(0, 0, 1);
        yard.delay(0, 0, 1);
        yard.delay(0, 0, 1);
        due("delay(0, 0, 1), a fourth", yard.delay(0, 0, 1), 4);
        checks.refused("delay(0, 0, 1), a fifth", STATE, () -> yard.delay(0, 0, 1));
        checks.refused("delay(0, 9, 9), a fifth", STATE, () -> yard.delay(0, 9, 9));
        due("endOf(0) with four", yard.endOf(0), 10);
    }

    // ---- promises 13 and 14

    private void testPoursAndEnds(Sentences promises) {
        promises.section("Promise 13");
        promises.sentence("Returns how many pours there are.", this::pours);
        promises.section("Promise 14");
        promises.sentence("Returns the end of a pour.", this::ends);
        promises.sentence(NO_SUCH_POUR,
                () -> checks.pourNumbers("endOf(?)", (y, pour) -> y.endOf(pour)));
    }

    private void pours() {
        FormworkYard yard = new FormworkYard();
        for (int count = 0; count < 10; count++) {
            due("pours()", yard.pours(), count);
            yard.plan(5, 5, 5, 5);
        }
        due("pours() with ten", yard.pours(), 10);
        checks.refused("plan, an eleventh", STATE, () -> yard.plan(5, 5, 5, 5));
        due("pours() behind a refused plan", yard.pours(), 10);
        yard.cancel(0);
        due("pours() without number 0", yard.pours(), 9);
        yard.cancel(9);
        due("pours() without numbers 0 and 9", yard.pours(), 8);
        yard.move(5, 0);
        due("pours() behind a move", yard.pours(), 8);
        for (int pour = 1; pour < 9; pour++) {
            yard.cancel(pour);
        }
        due("pours() without any", yard.pours(), 0);
    }

    private void ends() {
        FormworkYard yard = new FormworkYard();
        int[] volumes = {1, 9, 10, 11, 19, 20, 21, 190, 191, 200};
        int[] hours = {1, 1, 1, 2, 2, 2, 3, 19, 20, 20};
        for (int i = 0; i < volumes.length; i++) {
            yard.plan(0, volumes[i], 1, 1);
            due("endOf, start 0, volume " + volumes[i], yard.endOf(i), hours[i]);
            yard.move(i, 900);
            due("endOf, start 900, volume " + volumes[i], yard.endOf(i), 900 + hours[i]);
        }
        for (int count = 1; count <= 4; count++) {
            yard.delay(9, 199, 9);
            due("endOf(9), breaks: " + count, yard.endOf(9), 920 + 9 * count);
        }
        int[] rates = {50, 5, 4, 2, 1};
        int[] wanted = {940, 976, 986, 1036, 1136};
        for (int i = 0; i < rates.length; i++) {
            yard.setRates(50, rates[i]);
            due("endOf(9), rate " + rates[i], yard.endOf(9), wanted[i]);
        }
    }

    // ---- promises 15 to 17

    private void testColdJoints(Sentences promises) {
        promises.section("Promise 15");
        promises.sentence("Returns how many cold joints a pour has.", this::coldJoints);
        promises.sentence(NO_SUCH_POUR,
                () -> checks.pourNumbers("coldJoints(?)", (y, pour) -> y.coldJoints(pour)));
    }

    private void coldJoints() {
        FormworkYard yard = new FormworkYard();
        yard.plan(100, 40, 6, 25);
        due("coldJoints(0), no breaks", yard.coldJoints(0), 0);
        for (int count = 1; count <= 4; count++) {
            yard.delay(0, 10 * count - 1, 3);
            due("coldJoints(0), breaks of 90: " + count, yard.coldJoints(0), count);
        }
        // they last from 100, 104, 108 and 112 on
        int[] lasts = {102, 106, 110, 114};
        for (int i = 0; i < lasts.length; i++) {
            yard.setTemperature(lasts[i], lasts[i], 19);
            due("coldJoints(0), breaks of 89: " + (i + 1), yard.coldJoints(0), 3 - i);
        }
        yard.setTemperature(103, 103, 50);
        yard.setTemperature(99, 99, 50);
        yard.setTemperature(115, 115, 50);
        due("coldJoints(0), hours between them being warm", yard.coldJoints(0), 0);
        yard.move(0, 500);
        due("coldJoints(0), moved", yard.coldJoints(0), 4);
        yard.setTemperature(0, 999, -40);
        due("coldJoints(0), no hour gaining", yard.coldJoints(0), 0);
    }

    private void testStruck(Sentences promises) {
        promises.section("Promise 16");
        promises.sentence("Returns the hour in which the panels of a pour are struck; NONE if never.",
                this::struck);
        promises.sentence(NO_SUCH_POUR,
                () -> checks.pourNumbers("struck(?)", (y, pour) -> y.struck(pour)));
    }

    private void struck() {
        FormworkYard yard = new FormworkYard();
        yard.plan(0, 1, 1, 1);
        due("struck(0), the least that can be", yard.struck(0), 2);
        yard.setTemperature(0, 1, -10);
        yard.setTemperature(2, 2, 9);
        due("struck(0), 0 and 19 behind its end", yard.struck(0), 4);
        yard.setTemperature(0, 999, 20);
        yard.plan(900, 10, 1, 100);
        due("struck(1), 2940 up to 999", yard.struck(1), NONE);
        yard.plan(900, 10, 1, 79);
        due("struck(2), 2900 for 79", yard.struck(2), 998);
        yard.plan(900, 20, 1, 79);
        due("struck(3), an hour later", yard.struck(3), 999);
        yard.plan(900, 30, 1, 79);
        due("struck(4), two hours later", yard.struck(4), NONE);
        yard.setTemperature(999, 999, 50);
        due("struck(4), hour 999 not counting", yard.struck(4), NONE);
        yard.setTemperature(998, 998, 50);
        due("struck(4), 2910 up to 999", yard.struck(4), 999);
    }

    private void testFreeFrom(Sentences promises) {
        promises.section("Promise 17");
        promises.sentence("Returns the first hour in which the panels of a pour are not busy any more; "
                + "NONE if they are busy to the end.", this::freeFrom);
        promises.sentence(NO_SUCH_POUR,
                () -> checks.pourNumbers("freeFrom(?)", (y, pour) -> y.freeFrom(pour)));
    }

    private void freeFrom() {
        FormworkYard yard = new FormworkYard();
        yard.setCrew(0, 0);
        yard.plan(0, 1, 1, 1);
        due("freeFrom(0), the least that can be", yard.freeFrom(0), 2);
        yard.plan(900, 10, 1, 1);
        int[] hours = {974, 975, 976, 995, 996, 997, 998, 999};
        int[] free = {999, NONE, NONE, NONE, NONE, NONE, NONE, NONE};
        int[] freeOf3 = {978, 979, 980, 999, NONE, NONE, NONE, NONE};
        int[] freeOf0 = {975, 976, 977, 996, 997, 998, 999, NONE};
        for (int i = 0; i < hours.length; i++) {
            yard.setTemperature(0, 999, -10);
            yard.setTemperature(hours[i], hours[i], 10);
            String of = ", hour " + hours[i] + " gaining 20";
            yard.setCrew(2, 24);
            due("freeFrom(1), cleaning 24" + of, yard.freeFrom(1), free[i]);
            yard.setCrew(2, 3);
            due("freeFrom(1), cleaning 3" + of, yard.freeFrom(1), freeOf3[i]);
            yard.setCrew(2, 0);
            due("freeFrom(1), cleaning 0" + of, yard.freeFrom(1), freeOf0[i]);
        }
        yard.setTemperature(0, 999, -10);
        due("freeFrom(1), never struck", yard.freeFrom(1), NONE);
        yard.setTemperature(0, 999, 20);
        yard.setRates(1, 1);
        yard.plan(900, 200, 1, 1);
        due("freeFrom(2), its end beyond the hours", yard.freeFrom(2), NONE);
    }

    private void due(String call, long got, long want) {
        checks.due(call, got, want);
    }

    private void unchanged(String call, Class<? extends RuntimeException> due,
            Checks.Change change) {
        checks.refusedUnchanged(call, due, change);
    }
}
