import java.util.ArrayList;
import java.util.Arrays;
import java.util.List;
import java.util.NoSuchElementException;

/** The sentences of the document's "Terms". */
final class EdgesOfTerms {
    private static final int NONE = FormworkYard.NONE;
    private static final Class<IndexOutOfBoundsException> INDEX = IndexOutOfBoundsException.class;
    private static final Class<IllegalArgumentException> ARGUMENT = IllegalArgumentException.class;
    private static final Class<IllegalStateException> STATE = IllegalStateException.class;
    private static final Class<NoSuchElementException> MISSING = NoSuchElementException.class;

    private final Checks checks;

    EdgesOfTerms(Checks checks) {
        this.checks = checks;
    }

    void testAll(Sentences terms) {
        terms.section("Terms");
        testHours(terms);
        testPours(terms);
        testBreaks(terms);
        testPanels(terms);
        terms.sentence("If several exceptions apply to a call, the one that its throws clause names "
                + "first is thrown; a call that throws changes nothing.", this::severalExceptions);
        terms.sentence("The constants: `NONE = -1`: There is none.", this::none);
    }

    // ---- hours, maturity, strength, rates

    private void testHours(Sentences terms) {
        terms.sentence("Hours are numbered 0 to 999.", this::hours);
        terms.sentence("Each hour has a temperature, 20 at first.", this::temperaturesAtFirst);
        terms.sentence("The gain of an hour is its temperature and 10 together; 0 if that is below 0.",
                this::gains);
        terms.sentence("Hours beyond 999 have no gain.", this::hoursBeyond);
        terms.sentence("The maturity from an hour to another one is the sum of the gains of the hours "
                + "from the first one on, the other one not counted; 0 if the other one is not later.",
                this::maturities);
        terms.sentence("Strength follows from maturity: 0 at 0, 25 at 500, 50 at 1200, 75 at 2500, 100 "
                + "at 5000 and above; between two of these maturities it is the lower strength and 25 * "
                + "(maturity - the lower maturity) / (the greater maturity - the lower maturity), "
                + "rounded down, together.", this::strengths);
        terms.sentence("The rate is the lesser one of what trucks bring and what the pump takes in an "
                + "hour, both in cubic metres, at first 10 and 12.", this::rates);
    }

    private void hours() {
        FormworkYard yard = new FormworkYard();
        yard.setTemperature(0, 0, 7);
        yard.setTemperature(999, 999, 8);
        due("temperature(0)", yard.temperature(0), 7);
        due("temperature(999)", yard.temperature(999), 8);
        due("maturity(0, 1)", yard.maturity(0, 1), 17);
        due("maturity(998, 999)", yard.maturity(998, 999), 30);
        due("need(0)", yard.need(0), 0);
        due("need(999)", yard.need(999), 0);
        due("pourOf(0, 0)", yard.pourOf(0, 0), NONE);
        due("pourOf(0, 999)", yard.pourOf(0, 999), NONE);
        int[] noHours = {-1, 1000};
        for (int hour : noHours) {
            checks.refused("temperature(" + hour + ")", INDEX, () -> yard.temperature(hour));
            checks.refused("maturity(" + hour + ", 5)", INDEX, () -> yard.maturity(hour, 5));
            checks.refused("maturity(5, " + hour + ")", INDEX, () -> yard.maturity(5, hour));
            checks.refused("need(" + hour + ")", INDEX, () -> yard.need(hour));
            checks.refused("pourOf(0, " + hour + ")", INDEX, () -> yard.pourOf(0, hour));
        }
    }

    private void temperaturesAtFirst() {
        for (int from = 0; from < 1000; from += 500) {
            FormworkYard yard = new FormworkYard();
            for (int hour = from; hour < from + 500; hour++) {
                due("temperature(" + hour + ")", yard.temperature(hour), 20);
            }
        }
    }

    private void gains() {
        int[] temperatures = {-40, -12, -11, -10, -9, -1, 0, 1, 20, 49, 50};
        int[] wanted = {0, 0, 0, 0, 1, 9, 10, 11, 30, 59, 60};
        for (int i = 0; i < temperatures.length; i++) {
            FormworkYard yard = new FormworkYard();
            yard.setTemperature(500, 500, temperatures[i]);
            String at = " at " + temperatures[i];
            due("maturity(500, 501)" + at, yard.maturity(500, 501), wanted[i]);
            due("maturity(499, 502)" + at, yard.maturity(499, 502), 60 + wanted[i]);
        }
        FormworkYard cold = new FormworkYard();
        cold.setTemperature(1, 998, -40);
        due("maturity(0, 999), hour 0 alone gaining", cold.maturity(0, 999), 30);
    }

    private void hoursBeyond() {
        FormworkYard yard = new FormworkYard();
        yard.setTemperature(0, 999, 50);
        yard.setRates(1, 1);
        int[] volumes = {97, 98, 99, 100, 101, 200};
        int[] struck = {998, 999, NONE, NONE, NONE, NONE};
        for (int i = 0; i < volumes.length; i++) {
            yard.plan(900, volumes[i], 1, 1);
            due("struck, end " + yard.endOf(i), yard.struck(i), struck[i]);
            due("freeFrom, end " + yard.endOf(i), yard.freeFrom(i), NONE);
        }
        yard.delay(5, 98, 9);
        yard.setTemperature(998, 998, 20);
        due("coldJoints(5), 998 to 1006 at 30 and 60", yard.coldJoints(5), 1);
        yard.setTemperature(999, 999, 49);
        due("coldJoints(5), 998 to 1006 at 30 and 59", yard.coldJoints(5), 0);
        yard.setTemperature(0, 999, 50);
        int[] parts = {99, 100, 101, 199};
        for (int part : parts) {
            int pour = yard.plan(900, 200, 1, 1);
            yard.delay(pour, part, 9);
            due("coldJoints, 9 hours from " + (900 + part), yard.coldJoints(pour), 0);
        }
    }

    private void maturities() {
        FormworkYard yard = new FormworkYard();
        yard.setTemperature(0, 0, 1);
        yard.setTemperature(1, 1, 2);
        yard.setTemperature(998, 998, 3);
        yard.setTemperature(999, 999, 4);
        due("maturity(0, 0)", yard.maturity(0, 0), 0);
        due("maturity(0, 1)", yard.maturity(0, 1), 11);
        due("maturity(0, 2)", yard.maturity(0, 2), 23);
        due("maturity(1, 2)", yard.maturity(1, 2), 12);
        due("maturity(1, 1)", yard.maturity(1, 1), 0);
        due("maturity(1, 0)", yard.maturity(1, 0), 0);
        due("maturity(998, 999)", yard.maturity(998, 999), 13);
        due("maturity(999, 999)", yard.maturity(999, 999), 0);
        due("maturity(999, 998)", yard.maturity(999, 998), 0);
        due("maturity(999, 0)", yard.maturity(999, 0), 0);
        due("maturity(0, 999)", yard.maturity(0, 999), 11 + 12 + 996 * 30 + 13);
        yard.setTemperature(0, 999, 50);
        due("maturity(0, 999) at 50", yard.maturity(0, 999), 999 * 60);
        yard.setTemperature(0, 999, -40);
        due("maturity(0, 999) at -40", yard.maturity(0, 999), 0);
    }

    private void strengths() {
        int[] maturities = {0, 500, 1200, 2500, 5000};
        FormworkYard yard = new FormworkYard();
        for (int i = 0; i < maturities.length; i++) {
            due("strength(" + maturities[i] + ")", yard.strength(maturities[i]), 25 * i);
        }
        for (int i = 1; i < maturities.length; i++) {
            stepUp(yard, maturities[i - 1], maturities[i], 25 * (i - 1));
        }
        due("strength(5001)", yard.strength(5001), 100);
        due("strength(7500)", yard.strength(7500), 100);
        due("strength(1000000)", yard.strength(1000000), 100);
    }

    /** Between two maturities: the first one of each strength, and the last one ahead of it. */
    private void stepUp(FormworkYard yard, int lower, int greater, int strength) {
        int width = greater - lower;
        for (int more = 1; more <= 25; more++) {
            int first = lower;
            while ((first - lower) * 25 < more * width) {
                first++;
            }
            due("strength(" + first + ")", yard.strength(first), strength + more);
            due("strength(" + (first - 1) + ")", yard.strength(first - 1), strength + more - 1);
        }
    }

    private void rates() {
        FormworkYard yard = new FormworkYard();
        yard.plan(100, 10, 1, 1);
        yard.plan(100, 11, 1, 1);
        due("endOf, 10 at first", yard.endOf(0), 101);
        due("endOf, 11 at first", yard.endOf(1), 102);
        due("setRates(11, 12)", yard.setRates(11, 12), 11);
        due("endOf, 11 at rate 11", yard.endOf(1), 101);
        due("setRates(12, 10), the pump being the slower", yard.setRates(12, 10), 10);
        due("endOf, 11 at rate 10", yard.endOf(1), 102);
        due("setRates(11, 11)", yard.setRates(11, 11), 11);
        due("setRates(1, 50)", yard.setRates(1, 50), 1);
        due("setRates(50, 1)", yard.setRates(50, 1), 1);
        due("setRates(1, 1)", yard.setRates(1, 1), 1);
        due("setRates(50, 50)", yard.setRates(50, 50), 50);
    }

    // ---- pours

    private void testPours(Sentences terms) {
        terms.sentence("There are at most 10 at a time; a new one gets the least number from 0 on that "
                + "is free.", this::atMostTenPours);
        terms.sentence("A pour has a start, a volume, a number of panels that it needs, a strength that "
                + "is wanted, and breaks.", this::newPour);
        terms.sentence("The end of a pour is its start and the volume divided by the rate, rounded up, "
                + "and the hours of all its breaks, together.", this::ends);
    }

    private void atMostTenPours() {
        FormworkYard yard = new FormworkYard();
        for (int number = 0; number < 10; number++) {
            due("plan", yard.plan(5, 5, 5, 5), number);
        }
        checks.refused("plan, an eleventh", STATE, () -> yard.plan(5, 5, 5, 5));
        due("pours()", yard.pours(), 10);
        int[][] cancelled = {{0}, {9}, {4}, {9, 0}, {0, 9}, {3, 7, 5}, {9, 8, 7, 6, 5, 4, 3, 2, 1, 0}};
        for (int[] numbers : cancelled) {
            for (int number : numbers) {
                yard.cancel(number);
            }
            int[] ordered = numbers.clone();
            Arrays.sort(ordered);
            for (int number : ordered) {
                due("plan, the least number being " + number, yard.plan(5, 5, 5, 5), number);
            }
            checks.refused("plan, an eleventh again", STATE, () -> yard.plan(5, 5, 5, 5));
        }
    }

    private void newPour() {
        FormworkYard yard = new FormworkYard();
        yard.plan(40, 21, 7, 26);
        due("coldJoints(0), no breaks yet", yard.coldJoints(0), 0);
        due("endOf(0), no breaks yet", yard.endOf(0), 43);
        // 26 is there at 528, after 18 hours
        due("struck(0)", yard.struck(0), 61);
        due("need(40)", yard.need(40), 7);
        due("delay(0, 0, 3), the first break", yard.delay(0, 0, 3), 1);
        due("coldJoints(0)", yard.coldJoints(0), 1);
        due("move(0, 41)", yard.move(0, 41), 40);
        due("cancel(0)", yard.cancel(0), 7);
        yard.plan(40, 21, 7, 26);
        due("endOf(0), the breaks of the pour before being gone", yard.endOf(0), 43);
        due("coldJoints(0), the breaks of the pour before being gone", yard.coldJoints(0), 0);
    }

    private void ends() {
        int[] rates = {1, 1, 2, 2, 10, 10, 10, 10, 49, 50, 50, 50, 50, 50};
        int[] volumes = {1, 200, 1, 199, 9, 10, 11, 200, 50, 1, 50, 51, 199, 200};
        int[] hours = {1, 200, 1, 100, 1, 1, 2, 20, 2, 1, 1, 2, 4, 4};
        for (int i = 0; i < rates.length; i++) {
            FormworkYard yard = new FormworkYard();
            yard.setRates(rates[i], 50);
            yard.plan(0, volumes[i], 1, 1);
            yard.plan(900, volumes[i], 1, 1);
            String of = ", " + volumes[i] + " at rate " + rates[i];
            due("endOf(0)" + of, yard.endOf(0), hours[i]);
            due("endOf(1)" + of, yard.endOf(1), 900 + hours[i]);
            for (int count = 1; count <= 4; count++) {
                yard.delay(1, 0, 9);
                due("endOf(1)" + of + ", breaks: " + count, yard.endOf(1), 900 + hours[i] + 9 * count);
            }
            due("endOf(0)" + of + " again", yard.endOf(0), hours[i]);
        }
    }

    // ---- breaks

    private void testBreaks(Sentences terms) {
        terms.sentence("A break comes behind some part of the volume and lasts some hours; breaks are "
                + "ordered by that part, those behind the same part as they were told.",
                this::orderOfBreaks);
        terms.sentence("A break begins at the start and the part divided by the rate, rounded down, and "
                + "the hours of all breaks ahead of it, together.", this::beginningsOfBreaks);
        terms.sentence("A break is a cold joint if the maturity from its beginning on over its hours is "
                + "at least 90.", this::coldJoints);
    }

    private void orderOfBreaks() {
        int[] parts = {0, 10, 20, 30};
        int[] hours = {2, 3, 4, 5};
        for (int[] order : orders()) {
            FormworkYard yard = Yards.frozen();
            yard.plan(100, 31, 1, 1);
            for (int which : order) {
                yard.delay(0, parts[which], hours[which]);
            }
            // the first and the last hours of the four
            Yards.warm(yard, 100, 101, 103, 105, 107, 110, 112, 116);
            due("coldJoints(0), told in another order", yard.coldJoints(0), 4);
        }
        for (int[] order : orders()) {
            FormworkYard yard = Yards.frozen();
            yard.plan(100, 40, 1, 1);
            int begin = 103;
            for (int which : order) {
                yard.delay(0, 35, hours[which]);
                Yards.warm(yard, begin, begin + hours[which] - 1);
                begin += hours[which];
            }
            due("coldJoints(0), behind the same part", yard.coldJoints(0), 4);
        }
        FormworkYard yard = Yards.frozen();
        yard.plan(100, 21, 1, 1);
        yard.delay(0, 20, 2);
        yard.delay(0, 10, 3);
        yard.delay(0, 20, 4);
        yard.delay(0, 10, 5);
        // 101 to 103, 104 to 108, 110 to 111, 112 to 115
        Yards.warm(yard, 101, 103, 104, 108, 110, 111, 112, 115);
        due("coldJoints(0), two behind each of two parts", yard.coldJoints(0), 4);
    }

    private static List<int[]> orders() {
        List<int[]> orders = new ArrayList<>();
        for (int code = 0; code < 256; code++) {
            int[] order = {code / 64, code / 16 % 4, code / 4 % 4, code % 4};
            int seen = 0;
            for (int which : order) {
                seen |= 1 << which;
            }
            if (seen == 15) {
                orders.add(order);
            }
        }
        return orders;
    }

    private void beginningsOfBreaks() {
        int[] rates = {10, 10, 10, 10, 10, 1, 1, 1, 50, 50, 50, 50, 3};
        int[] parts = {0, 9, 10, 19, 20, 0, 1, 199, 0, 49, 50, 199, 199};
        int[] hours = {0, 0, 1, 1, 2, 0, 1, 199, 0, 0, 1, 3, 66};
        for (int i = 0; i < rates.length; i++) {
            beginsAt(rates[i], 0, parts[i], hours[i]);
            beginsAt(rates[i], 700, parts[i], 700 + hours[i]);
        }
        beginsAt(2, 900, 197, 998);
    }

    /** With no break ahead, with 3 of 9 hours ahead, and with 3 of 9 hours behind it. */
    private void beginsAt(int rate, int start, int part, int hour) {
        String of = ", start " + start + ", part " + part + " at rate " + rate;
        FormworkYard yard = Yards.frozen();
        yard.setRates(rate, 50);
        yard.plan(start, 200, 1, 1);
        yard.delay(0, part, 2);
        Yards.warm(yard, hour, hour + 1);
        due("coldJoints(0)" + of, yard.coldJoints(0), 1);
        for (int i = 0; i < 3; i++) {
            yard.delay(0, part, 9);
        }
        due("coldJoints(0)" + of + ", others behind", yard.coldJoints(0), 1);
        FormworkYard late = Yards.frozen();
        late.setRates(rate, 50);
        late.plan(start, 200, 1, 1);
        for (int i = 0; i < 3; i++) {
            late.delay(0, 0, 9);
        }
        late.delay(0, part, 2);
        if (hour + 28 < 1000) {
            Yards.warm(late, hour + 27, hour + 28);
            due("coldJoints(0)" + of + ", others ahead", late.coldJoints(0), 1);
        }
    }

    private void coldJoints() {
        FormworkYard yard = Yards.frozen();
        yard.plan(100, 10, 1, 1);
        yard.delay(0, 0, 2);
        yard.setTemperature(99, 99, 50);
        yard.setTemperature(102, 102, 50);
        due("coldJoints(0), warm ahead and behind alone", yard.coldJoints(0), 0);
        int[] second = {33, 34, 35, 36, 50};
        int[] joints = {0, 0, 1, 1, 1};
        yard.setTemperature(100, 100, 35);
        for (int i = 0; i < second.length; i++) {
            yard.setTemperature(101, 101, second[i]);
            due("coldJoints(0) at 45 and " + (second[i] + 10), yard.coldJoints(0), joints[i]);
        }
        FormworkYard slow = new FormworkYard();
        slow.setTemperature(0, 999, 0);
        slow.plan(100, 10, 1, 1);
        slow.delay(0, 0, 8);
        due("coldJoints(0), 8 hours of 10", slow.coldJoints(0), 0);
        slow.delay(0, 9, 9);
        due("coldJoints(0), 9 hours of 10", slow.coldJoints(0), 1);
        slow.setTemperature(116, 116, -1);
        due("coldJoints(0), 8 hours of 10 and one of 9", slow.coldJoints(0), 0);
        FormworkYard hot = new FormworkYard();
        hot.setTemperature(0, 999, 50);
        hot.plan(100, 10, 1, 1);
        hot.delay(0, 0, 1);
        due("coldJoints(0), an hour of 60", hot.coldJoints(0), 0);
        for (int count = 1; count <= 3; count++) {
            hot.delay(0, count, 2);
            due("coldJoints(0), breaks of 120: " + count, hot.coldJoints(0), count);
        }
    }

    // ---- panels

    private void testPanels(Sentences terms) {
        terms.sentence("The panels of a pour stand from the set-up hours (2 at first) before its start "
                + "on, or from hour 0 on if that is later, until they are struck: in the first hour not "
                + "before the end of the pour for which the maturity from the end to this hour gives at "
                + "least the strength that is wanted.", this::standing);
        terms.sentence("If there is no such hour up to 999, they are never struck.", this::neverStruck);
        terms.sentence("They are busy from when they stand until they are struck and the cleaning hours "
                + "(3 at first) are over; to the end of hour 999 if that is later or they are never "
                + "struck.", this::busyPanels);
        terms.sentence("The need of an hour is the sum of the panels that the pours need whose panels "
                + "are busy in it, whether they get so many or not.", this::needs);
        terms.sentence("The yard has some panels, 20 at first, numbered from 0.", this::panelsOfYard);
        terms.sentence("They are given to the pours in the order in which their panels begin to stand, "
                + "those that begin in the same hour by their numbers: each pour gets, as many as it "
                + "needs, those panels with the lowest numbers that are not busy with a pour that got "
                + "them before it in the hour in which its own begin to stand; if there are not so many, "
                + "it gets fewer.", this::givenPanels);
    }

    private void standing() {
        standsFrom(new FormworkYard(), 2);
        int[] setUps = {0, 1, 23, 24};
        for (int setUp : setUps) {
            FormworkYard yard = new FormworkYard();
            yard.setCrew(setUp, 3);
            standsFrom(yard, setUp);
        }
        struckFrom(1, 20, 1);
        struckFrom(25, 500, 17);
        struckFrom(26, 528, 18);
        struckFrom(50, 1200, 40);
        struckFrom(75, 2500, 84);
        struckFrom(99, 4900, 164);
        struckFrom(100, 5000, 167);
    }

    private void standsFrom(FormworkYard yard, int setUp) {
        int[] starts = {0, 1, setUp, setUp + 1, setUp + 2, 900};
        yard.plan(0, 1, 7, 1);
        for (int start : starts) {
            yard.move(0, start);
            int stand = start > setUp ? start - setUp : 0;
            String of = ", start " + start + ", set-up " + setUp;
            due("need(" + stand + ")" + of, yard.need(stand), 7);
            due("pourOf(6, " + stand + ")" + of, yard.pourOf(6, stand), 0);
            if (stand > 0) {
                due("need(" + (stand - 1) + ")" + of, yard.need(stand - 1), 0);
                due("pourOf(6, " + (stand - 1) + ")" + of, yard.pourOf(6, stand - 1), NONE);
            }
        }
    }

    /** The last of so many hours at 20 degrees is set to what is lacking, then to one less. */
    private void struckFrom(int strength, int maturity, int hours) {
        FormworkYard yard = new FormworkYard();
        String of = " of strength " + strength;
        yard.plan(100, 10, 1, strength);
        due("struck(0)" + of, yard.struck(0), 101 + hours);
        int lacking = maturity - 30 * (hours - 1);
        yard.setTemperature(100 + hours, 100 + hours, lacking - 10);
        due("struck(0)" + of + " at just " + maturity, yard.struck(0), 101 + hours);
        yard.setTemperature(100 + hours, 100 + hours, lacking - 11);
        due("struck(0)" + of + " with one less", yard.struck(0), 102 + hours);
        yard.setTemperature(0, 100, 50);
        due("struck(0)" + of + ", warm ahead of the end", yard.struck(0), 102 + hours);
        yard.setTemperature(101, 101, -40);
        yard.setTemperature(101 + hours, 101 + hours, 50);
        due("struck(0)" + of + ", its first hour cold", yard.struck(0), 102 + hours);
    }

    private void neverStruck() {
        FormworkYard yard = Yards.frozen();
        yard.plan(10, 10, 1, 1);
        due("struck(0), no hour gaining", yard.struck(0), NONE);
        int[] hours = {0, 9, 10, 11, 12, 997, 998, 999};
        int[] struck = {NONE, NONE, NONE, 12, 13, 998, 999, NONE};
        for (int i = 0; i < hours.length; i++) {
            yard.setTemperature(0, 999, -10);
            yard.setTemperature(hours[i], hours[i], 10);
            due("struck(0), hour " + hours[i] + " gaining 20", yard.struck(0), struck[i]);
            yard.setTemperature(hours[i], hours[i], 9);
            due("struck(0), hour " + hours[i] + " gaining 19", yard.struck(0), NONE);
        }
        // 5 in each of the hours 11 to 998
        FormworkYard slow = new FormworkYard();
        slow.setTemperature(0, 999, -5);
        slow.plan(10, 10, 1, 99);
        slow.plan(10, 10, 1, 100);
        due("maturity(11, 999)", slow.maturity(11, 999), 4940);
        due("struck(0) of strength 99", slow.struck(0), 991);
        due("struck(1) of strength 100", slow.struck(1), NONE);
        slow.setTemperature(998, 998, 50);
        due("struck(1), 4995 up to 999", slow.struck(1), NONE);
        slow.setTemperature(11, 11, 0);
        due("struck(1), 5000 up to 999", slow.struck(1), 999);
    }

    private void busyPanels() {
        freeAfter(new FormworkYard(), 3);
        int[] cleanings = {0, 1, 23, 24};
        for (int cleaning : cleanings) {
            FormworkYard yard = new FormworkYard();
            yard.setCrew(2, cleaning);
            freeAfter(yard, cleaning);
        }
        FormworkYard never = Yards.frozen();
        never.plan(10, 10, 7, 1);
        due("freeFrom(0), never struck", never.freeFrom(0), NONE);
        due("need(999), never struck", never.need(999), 7);
        due("pourOf(6, 999), never struck", never.pourOf(6, 999), 0);
        never.setCrew(0, 0);
        due("freeFrom(0), never struck and not cleaned", never.freeFrom(0), NONE);
        due("need(9)", never.need(9), 0);
        due("need(10)", never.need(10), 7);
        due("need(999), never struck and not cleaned", never.need(999), 7);
    }

    /** Struck in a middle hour, and in the three hours about the last one that is cleaned by 999. */
    private void freeAfter(FormworkYard yard, int cleaning) {
        yard.plan(10, 10, 7, 1);
        int[] hours = {500, 999 - cleaning - 1, 999 - cleaning, 999 - cleaning + 1};
        for (int struck : hours) {
            if (struck > 999) {
                continue;
            }
            yard.setTemperature(0, 999, -10);
            yard.setTemperature(struck - 1, struck - 1, 10);
            String of = ", struck at " + struck + ", cleaning " + cleaning;
            int free = struck + cleaning;
            due("struck(0)" + of, yard.struck(0), struck);
            due("freeFrom(0)" + of, yard.freeFrom(0), free <= 999 ? free : NONE);
            due("need(" + (free - 1) + ")" + of, yard.need(free - 1), 7);
            due("need(999)" + of, yard.need(999), free <= 999 ? 0 : 7);
            due("pourOf(0, 999)" + of, yard.pourOf(0, 999), free <= 999 ? NONE : 0);
        }
    }

    private void needs() {
        FormworkYard yard = new FormworkYard();
        due("need(10) without pours", yard.need(10), 0);
        // busy from 8 to 14
        yard.plan(10, 10, 30, 1);
        due("need(7)", yard.need(7), 0);
        due("need(8), more than the panels", yard.need(8), 30);
        due("need(14)", yard.need(14), 30);
        due("need(15)", yard.need(15), 0);
        yard.setPanels(0);
        due("need(10) without panels", yard.need(10), 30);
        // busy from 15 to 21, and from 14 to 20
        yard.plan(17, 10, 4, 1);
        due("need(14), one ahead of the other", yard.need(14), 30);
        due("need(15), one behind the other", yard.need(15), 4);
        yard.move(1, 16);
        due("need(14), both", yard.need(14), 34);
        for (int pour = 2; pour < 10; pour++) {
            yard.plan(10, 10, 30, 1);
        }
        yard.move(1, 10);
        due("need(10) of ten pours", yard.need(10), 9 * 30 + 4);
        yard.cancel(0);
        due("need(10) of nine pours", yard.need(10), 8 * 30 + 4);
    }

    private void panelsOfYard() {
        FormworkYard yard = new FormworkYard();
        due("pourOf(0, 5)", yard.pourOf(0, 5), NONE);
        due("pourOf(19, 5)", yard.pourOf(19, 5), NONE);
        checks.refused("pourOf(20, 5)", INDEX, () -> yard.pourOf(20, 5));
        checks.refused("pourOf(-1, 5)", INDEX, () -> yard.pourOf(-1, 5));
        yard.plan(10, 10, 30, 25);
        due("panelsOf(0)", yard.panelsOf(0), 20);
        due("pourOf(0, 10)", yard.pourOf(0, 10), 0);
        due("pourOf(19, 10)", yard.pourOf(19, 10), 0);
        due("firstShort()", yard.firstShort(), 8);
        due("setPanels(20)", yard.setPanels(20), 20);
    }

    private void givenPanels() {
        givenByHoursAndNumbers();
        givenFromHour0();
        givenLowest();
        givenTooFew();
    }

    private void givenByHoursAndNumbers() {
        FormworkYard yard = new FormworkYard();
        yard.setPanels(10);
        yard.plan(20, 10, 6, 25);
        yard.plan(20, 10, 6, 25);
        given(yard, "in the same hour", 20, 0, 0, 0, 0, 0, 0, 1, 1, 1, 1);
        yard.move(1, 19);
        given(yard, "number 1 an hour sooner", 20, 1, 1, 1, 1, 1, 1, 0, 0, 0, 0);
        yard.move(0, 18);
        given(yard, "number 0 two hours sooner", 20, 0, 0, 0, 0, 0, 0, 1, 1, 1, 1);
        yard.move(0, 20);
        yard.move(1, 20);
        yard.cancel(0);
        given(yard, "number 1 alone", 20, 1, 1, 1, 1, 1, 1, -1, -1, -1, -1);
        yard.plan(20, 10, 7, 25);
        given(yard, "number 0 planned later", 20, 0, 0, 0, 0, 0, 0, 0, 1, 1, 1);
    }

    private void givenFromHour0() {
        FormworkYard yard = new FormworkYard();
        yard.setPanels(7);
        yard.plan(3, 10, 2, 25);
        yard.plan(2, 10, 2, 25);
        yard.plan(1, 10, 2, 25);
        yard.plan(0, 10, 2, 25);
        given(yard, "number 0 from hour 1, the others from hour 0", 3, 1, 1, 2, 2, 3, 3, 0);
        yard.setCrew(3, 3);
        given(yard, "all from hour 0", 3, 0, 0, 1, 1, 2, 2, 3);
        yard.setCrew(0, 3);
        given(yard, "all from their starts", 3, 3, 3, 2, 2, 1, 1, 0);
    }

    private void givenLowest() {
        FormworkYard yard = new FormworkYard();
        yard.setPanels(9);
        // busy from 8 to 14, 10 to 16, 15 to 21
        yard.plan(10, 10, 3, 1);
        yard.plan(12, 10, 2, 1);
        yard.plan(17, 10, 4, 1);
        given(yard, "of three", 14, 0, 0, 0, 1, 1, -1, -1, -1, -1);
        given(yard, "of three", 15, 2, 2, 2, 1, 1, 2, -1, -1, -1);
        given(yard, "of three", 16, 2, 2, 2, 1, 1, 2, -1, -1, -1);
        given(yard, "of three", 17, 2, 2, 2, -1, -1, 2, -1, -1, -1);
        given(yard, "of three", 22, -1, -1, -1, -1, -1, -1, -1, -1, -1);
        yard.move(2, 16);
        given(yard, "of three, the last an hour sooner", 14, 0, 0, 0, 1, 1, 2, 2, 2, 2);
        given(yard, "of three, the last an hour sooner", 15, -1, -1, -1, 1, 1, 2, 2, 2, 2);
        yard.setTemperature(0, 999, -10);
        yard.move(2, 900);
        given(yard, "never struck", 999, 0, 0, 0, 1, 1, 2, 2, 2, 2);
    }

    private void givenTooFew() {
        FormworkYard yard = new FormworkYard();
        yard.setPanels(60);
        yard.plan(20, 10, 30, 25);
        yard.plan(20, 10, 30, 25);
        yard.plan(20, 10, 1, 25);
        panelsOf(yard, "60", 30, 30, 0);
        yard.setPanels(59);
        panelsOf(yard, "59", 30, 29, 0);
        yard.setPanels(31);
        panelsOf(yard, "31", 30, 1, 0);
        yard.setPanels(30);
        panelsOf(yard, "30", 30, 0, 0);
        yard.setPanels(29);
        panelsOf(yard, "29", 29, 0, 0);
        yard.setPanels(1);
        panelsOf(yard, "1", 1, 0, 0);
        yard.setPanels(0);
        panelsOf(yard, "0", 0, 0, 0);
        yard.setPanels(60);
        yard.cancel(1);
        panelsOf(yard, "60, without pour 1", 30, -1, 1);
    }

    private void panelsOf(FormworkYard yard, String panels, int... wanted) {
        for (int pour = 0; pour < wanted.length; pour++) {
            int asked = pour;
            String call = "panelsOf(" + pour + ") with " + panels;
            if (wanted[pour] < 0) {
                checks.refused(call, MISSING, () -> yard.panelsOf(asked));
            } else {
                due(call, yard.panelsOf(pour), wanted[pour]);
            }
        }
    }

    /** The pours with which the panels from 0 on are busy in an hour. */
    private void given(FormworkYard yard, String which, int hour, int... pours) {
        for (int panel = 0; panel < pours.length; panel++) {
            due("pourOf(" + panel + ", " + hour + "), " + which, yard.pourOf(panel, hour), pours[panel]);
        }
        checks.refused("pourOf(" + pours.length + ", " + hour + ")", INDEX,
                () -> yard.pourOf(pours.length, hour));
    }

    // ---- exceptions

    private void severalExceptions() {
        unchanged("setTemperature(1000, 5, 10)", INDEX, y -> y.setTemperature(1000, 5, 10));
        unchanged("setTemperature(5, -1, 10)", INDEX, y -> y.setTemperature(5, -1, 10));
        unchanged("setTemperature(-1, 5, -41)", INDEX, y -> y.setTemperature(-1, 5, -41));
        unchanged("setTemperature(0, 1000, 51)", INDEX, y -> y.setTemperature(0, 1000, 51));
        unchanged("setTemperature(1000, -1, 51)", INDEX, y -> y.setTemperature(1000, -1, 51));
        // that yard has ten pours
        unchanged("plan(-1, 1, 1, 1)", ARGUMENT, y -> y.plan(-1, 1, 1, 1));
        unchanged("plan(901, 1, 1, 1)", ARGUMENT, y -> y.plan(901, 1, 1, 1));
        unchanged("plan(0, 0, 1, 1)", ARGUMENT, y -> y.plan(0, 0, 1, 1));
        unchanged("plan(0, 201, 1, 1)", ARGUMENT, y -> y.plan(0, 201, 1, 1));
        unchanged("plan(0, 1, 0, 1)", ARGUMENT, y -> y.plan(0, 1, 0, 1));
        unchanged("plan(0, 1, 31, 1)", ARGUMENT, y -> y.plan(0, 1, 31, 1));
        unchanged("plan(0, 1, 1, 0)", ARGUMENT, y -> y.plan(0, 1, 1, 0));
        unchanged("plan(0, 1, 1, 101)", ARGUMENT, y -> y.plan(0, 1, 1, 101));
        unchanged("move(-1, -1)", MISSING, y -> y.move(-1, -1));
        unchanged("move(10, 901)", MISSING, y -> y.move(10, 901));
        unchanged("delay(10, -1, 1)", MISSING, y -> y.delay(10, -1, 1));
        unchanged("delay(-1, 0, 10)", MISSING, y -> y.delay(-1, 0, 10));
        unchanged("delay(-1, 1000, 0)", MISSING, y -> y.delay(-1, 1000, 0));
        // pour 0 has a volume of 15 and 4 breaks
        unchanged("delay(0, -1, 1)", ARGUMENT, y -> y.delay(0, -1, 1));
        unchanged("delay(0, 15, 1)", ARGUMENT, y -> y.delay(0, 15, 1));
        unchanged("delay(0, 14, 0)", ARGUMENT, y -> y.delay(0, 14, 0));
        unchanged("delay(0, 14, 10)", ARGUMENT, y -> y.delay(0, 14, 10));
        unchanged("delay(0, 14, 9)", STATE, y -> y.delay(0, 14, 9));
        checks.refusedUnchangedIn(Yards::roomy, "move(0, 901), 0 being cancelled", MISSING,
                y -> y.move(0, 901));
        checks.refusedUnchangedIn(Yards::roomy, "delay(0, 15, 10), 0 being cancelled", MISSING,
                y -> y.delay(0, 15, 10));
    }

    private void none() {
        due("NONE", FormworkYard.NONE, -1);
        FormworkYard yard = Yards.frozen();
        due("firstShort()", yard.firstShort(), FormworkYard.NONE);
        due("earliest(0, 1, 21, 1)", yard.earliest(0, 1, 21, 1), FormworkYard.NONE);
        due("pourOf(0, 0)", yard.pourOf(0, 0), FormworkYard.NONE);
        yard.plan(0, 1, 1, 1);
        due("struck(0)", yard.struck(0), FormworkYard.NONE);
        due("freeFrom(0)", yard.freeFrom(0), FormworkYard.NONE);
    }

    private void due(String call, long got, long want) {
        checks.due(call, got, want);
    }

    private void unchanged(String call, Class<? extends RuntimeException> due,
            Checks.Change change) {
        checks.refusedUnchanged(call, due, change);
    }
}
