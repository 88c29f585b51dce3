import java.io.IOException;
import java.nio.file.Files;
import java.nio.file.Path;
import java.util.ArrayList;
import java.util.LinkedHashMap;
import java.util.List;
import java.util.Map;
import java.util.function.ToIntFunction;
import java.util.regex.Matcher;
import java.util.regex.Pattern;

/** "What it is", what "Terms" tell of the calls as a whole, and "Not promised". */
final class EdgesOfWhole {
    private static final int NONE = FormworkYard.NONE;
    /** Behind so many calls the document promises nothing. */
    private static final int MOST_CALLS = 512;
    private static final int CALLS_OF_BUSY = 19;
    private static final Pattern CALL = Pattern.compile("(?m)^    public (?:int|void) (\\w+)\\(");

    private final Checks checks;
    private final String source;

    EdgesOfWhole(Checks checks) throws IOException {
        this.checks = checks;
        source = Files.readString(Path.of("src/main/java/FormworkYard.java"));
    }

    void testAll(Sentences document) {
        document.section("What it is");
        document.sentence("Formwork Yard, a planner of concrete pours: pours are made as fast as trucks "
                + "and pump allow, maturity is summed from the temperature hour by hour, panels are "
                + "struck when the strength is there, cleaned and used again, and breaks in a pour leave "
                + "cold joints.", this::planner);
        document.sentence("An object is used for at most 512 calls after it has been made; what later "
                + "calls answer is free.", this::callsUpToTheLast);
        document.section("Terms");
        document.sentence("The calls tell temperatures, panels and rates, plan, move and delay pours, and "
                + "ask when panels are struck, how many are needed, and which panel stands where.",
                this::callsOfEachKind);
        testHeadings(document);
        document.section("Not promised");
        document.freedom("How the state is held inside the object is free, as are the speed of each call, "
                + "the text of toString and the behaviour of equals and hashCode.");
        document.freedom("Use of one object from several threads at once is not promised to be safe.");
        document.sentence("Nothing is promised beyond the answers and state changes described above, and "
                + "nothing about an object after its 512th call.", this::noFurtherChanges);
    }

    // ---- what it is

    private void planner() {
        FormworkYard yard = new FormworkYard();
        yard.setPanels(6);
        yard.plan(10, 20, 6, 25);
        yard.setRates(5, 8);
        due("endOf(0), trucks bringing 5", yard.endOf(0), 14);
        yard.setRates(8, 5);
        due("endOf(0), the pump taking 5", yard.endOf(0), 14);
        due("maturity(14, 30)", yard.maturity(14, 30), 480);
        due("maturity(14, 31)", yard.maturity(14, 31), 510);
        due("struck(0), 25 being there at 500", yard.struck(0), 31);
        yard.setTemperature(14, 23, -5);
        due("maturity(13, 25), ten hours at -5", yard.maturity(13, 25), 110);
        due("struck(0), ten hours at -5", yard.struck(0), 39);
        yard.setTemperature(14, 23, 20);
        due("freeFrom(0), cleaned", yard.freeFrom(0), 34);
        yard.plan(36, 20, 6, 25);
        due("panelsOf(1), used again", yard.panelsOf(1), 6);
        due("pourOf(5, 33)", yard.pourOf(5, 33), 0);
        due("pourOf(5, 34)", yard.pourOf(5, 34), 1);
        yard.move(1, 35);
        due("panelsOf(1), an hour too soon", yard.panelsOf(1), 0);
        due("delay(0, 10, 3)", yard.delay(0, 10, 3), 1);
        due("coldJoints(0), 3 hours at 20", yard.coldJoints(0), 1);
        due("delay(0, 15, 2)", yard.delay(0, 15, 2), 2);
        due("coldJoints(0), another of 2 hours", yard.coldJoints(0), 1);
        due("endOf(0) with both", yard.endOf(0), 19);
    }

    private void callsUpToTheLast() {
        for (Map.Entry<String, ToIntFunction<FormworkYard>> ask : asks().entrySet()) {
            FormworkYard yard = Yards.busy();
            int first = ask.getValue().applyAsInt(yard);
            int others = 0;
            for (int calls = CALLS_OF_BUSY + 1; calls < MOST_CALLS; calls++) {
                others += ask.getValue().applyAsInt(yard) == first ? 0 : 1;
            }
            due("other answers of " + ask.getKey() + " up to the last call", others, 0);
        }
        plansUpToTheLast();
        movesUpToTheLast();
        temperaturesUpToTheLast();
    }

    /** Eight calls in each of 64 rounds. */
    private void plansUpToTheLast() {
        FormworkYard yard = new FormworkYard();
        for (int round = 0; round < MOST_CALLS / 8; round++) {
            due("plan in round " + round, yard.plan(100 + round, 40, 7, 25), 0);
            for (int count = 1; count <= 4; count++) {
                due("delay in round " + round, yard.delay(0, 40 - 10 * count, 2 + count), count);
            }
            due("endOf in round " + round, yard.endOf(0), 122 + round);
            due("coldJoints in round " + round, yard.coldJoints(0), 4);
            due("cancel in round " + round, yard.cancel(0), 7);
        }
    }

    private void movesUpToTheLast() {
        FormworkYard yard = new FormworkYard();
        yard.plan(900, 10, 7, 25);
        for (int start = 0; start < MOST_CALLS - 2; start++) {
            due("move(0, " + start + ")", yard.move(0, start), start == 0 ? 900 : start - 1);
        }
        due("struck(0), the last call", yard.struck(0), MOST_CALLS - 3 + 18);
    }

    private void temperaturesUpToTheLast() {
        FormworkYard yard = new FormworkYard();
        for (int hour = 0; hour < MOST_CALLS - 1; hour++) {
            yard.setTemperature(hour, 999, hour % 91 - 40);
        }
        // five times -40 to 50, and 56 hours more: 1 to 60, and 1 to 5 in the last ones
        due("maturity(0, 511), the last call", yard.maturity(0, MOST_CALLS - 1), 5 * 1830 + 325);
    }

    // ---- terms of the calls as a whole

    private void callsOfEachKind() {
        FormworkYard yard = new FormworkYard();
        yard.setTemperature(0, 999, 10);
        due("setPanels(10)", yard.setPanels(10), 20);
        due("setRates(20, 4)", yard.setRates(20, 4), 4);
        due("plan(50, 8, 6, 25)", yard.plan(50, 8, 6, 25), 0);
        due("plan(60, 8, 6, 25)", yard.plan(60, 8, 6, 25), 1);
        due("move(1, 40)", yard.move(1, 40), 60);
        due("delay(1, 4, 5)", yard.delay(1, 4, 5), 1);
        // number 1 ends at 47 and is busy from 38 to 74, number 0 ends at 52 and is from 48 to 79
        due("struck(0)", yard.struck(0), 77);
        due("struck(1)", yard.struck(1), 72);
        due("need(47)", yard.need(47), 6);
        due("need(48)", yard.need(48), 12);
        due("need(74)", yard.need(74), 12);
        due("need(75)", yard.need(75), 6);
        due("pourOf(5, 48)", yard.pourOf(5, 48), 1);
        due("pourOf(6, 48)", yard.pourOf(6, 48), 0);
        due("pourOf(5, 75)", yard.pourOf(5, 75), NONE);
    }

    private void testHeadings(Sentences terms) {
        terms.sentence("Ahead of the calls `setTemperature`, `temperature`, `maturity`, `strength`, "
                + "`setPanels`, `setRates`, `setCrew` the interface says: ---- the yard.",
                () -> headed("the yard", "setTemperature", "temperature", "maturity", "strength",
                        "setPanels", "setRates", "setCrew"));
        terms.sentence("Ahead of the calls `plan`, `move`, `cancel`, `delay`, `pours`, `endOf`, "
                + "`coldJoints`, `struck`, `freeFrom` the interface says: ---- pours.",
                () -> headed("pours", "plan", "move", "cancel", "delay", "pours", "endOf",
                        "coldJoints", "struck", "freeFrom"));
        terms.sentence("Ahead of the calls `need`, `peak`, `peakByOverlaps`, `firstShort`, `earliest`, "
                + "`panelsOf`, `pourOf` the interface says: ---- panels.",
                () -> headed("panels", "need", "peak", "peakByOverlaps", "firstShort", "earliest",
                        "panelsOf", "pourOf"));
    }

    /** Looks that these calls, and they alone, stand under the heading in the program. */
    private void headed(String heading, String... calls) {
        String mark = "    // ---- " + heading + "\n";
        int from = source.indexOf(mark);
        int to = from < 0 ? -1 : source.indexOf("    // ---- ", from + mark.length());
        List<String> got = new ArrayList<>();
        Matcher call = CALL.matcher(to < 0 ? "" : source.substring(from, to));
        while (call.find()) {
            got.add(call.group(1));
        }
        checks.same("what stands under ---- " + heading, got.toString(), List.of(calls).toString());
    }

    // ---- not promised

    /** No calls but those that are told to change something change anything. */
    private void noFurtherChanges() {
        Map<String, ToIntFunction<FormworkYard>> calls = asks();
        calls.putAll(repeats());
        for (Map.Entry<String, ToIntFunction<FormworkYard>> call : calls.entrySet()) {
            Yards.LOOKS.forEach(look -> {
                FormworkYard yard = Yards.busy();
                call.getValue().applyAsInt(yard);
                checks.same("the yard after " + call.getKey(), look.apply(yard),
                        look.apply(Yards.busy()));
            });
        }
        callsOnOthers();
    }

    private void callsOnOthers() {
        Yards.LOOKS.forEach(look -> {
            FormworkYard yard = Yards.busy();
            FormworkYard other = Yards.ten();
            other.setTemperature(0, 999, 50);
            other.setPanels(60);
            other.setRates(1, 1);
            other.setCrew(0, 0);
            other.delay(0, 0, 9);
            other.move(1, 900);
            other.cancel(2);
            checks.same("the yard after calls on another", look.apply(yard), look.apply(Yards.busy()));
        });
    }

    private static Map<String, ToIntFunction<FormworkYard>> asks() {
        Map<String, ToIntFunction<FormworkYard>> asks = new LinkedHashMap<>();
        asks.put("temperature(100)", yard -> yard.temperature(100));
        asks.put("maturity(50, 450)", yard -> yard.maturity(50, 450));
        asks.put("strength(2600)", yard -> yard.strength(2600));
        asks.put("pours()", FormworkYard::pours);
        asks.put("endOf(0)", yard -> yard.endOf(0));
        asks.put("coldJoints(0)", yard -> yard.coldJoints(0));
        asks.put("struck(9)", yard -> yard.struck(9));
        asks.put("freeFrom(9)", yard -> yard.freeFrom(9));
        asks.put("need(300)", yard -> yard.need(300));
        asks.put("peak()", FormworkYard::peak);
        asks.put("peakByOverlaps()", FormworkYard::peakByOverlaps);
        asks.put("firstShort()", FormworkYard::firstShort);
        asks.put("earliest(30, 200, 17, 99)", yard -> yard.earliest(30, 200, 17, 99));
        asks.put("panelsOf(9)", yard -> yard.panelsOf(9));
        asks.put("pourOf(16, 390)", yard -> yard.pourOf(16, 390));
        return asks;
    }

    /** Calls that tell the busy yard once more what it was told. */
    private static Map<String, ToIntFunction<FormworkYard>> repeats() {
        Map<String, ToIntFunction<FormworkYard>> repeats = new LinkedHashMap<>();
        repeats.put("setPanels(17)", yard -> yard.setPanels(17));
        repeats.put("setRates(9, 7)", yard -> yard.setRates(9, 7));
        repeats.put("move(0, 20)", yard -> yard.move(0, 20));
        repeats.put("move(9, 380)", yard -> yard.move(9, 380));
        repeats.put("setTemperature(100, 400, 12)", yard -> {
            yard.setTemperature(100, 400, 12);
            return 0;
        });
        repeats.put("setCrew(4, 5)", yard -> {
            yard.setCrew(4, 5);
            return 0;
        });
        return repeats;
    }

    private void due(String call, long got, long want) {
        checks.due(call, got, want);
    }
}
