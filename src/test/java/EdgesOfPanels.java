import java.util.NoSuchElementException;

/** The sentences of promises 18 to 24. */
final class EdgesOfPanels {
    private static final int NONE = FormworkYard.NONE;
    private static final Class<IndexOutOfBoundsException> INDEX = IndexOutOfBoundsException.class;
    private static final Class<IllegalArgumentException> ARGUMENT = IllegalArgumentException.class;
    private static final Class<NoSuchElementException> MISSING = NoSuchElementException.class;

    private final Checks checks;

    EdgesOfPanels(Checks checks) {
        this.checks = checks;
    }

    void testAll(Sentences promises) {
        testNeed(promises);
        testPeaks(promises);
        testFirstShort(promises);
        testEarliest(promises);
        testPanelsOf(promises);
        testPourOf(promises);
    }

    // ---- promises 18 to 21

    private void testNeed(Sentences promises) {
        promises.section("Promise 18");
        promises.sentence("Returns the need of an hour.", this::needs);
        promises.sentence("Throws `IndexOutOfBoundsException` if hour is not 0 to 999",
                () -> checks.range("need(?)", 0, 999, INDEX, (y, hour) -> y.need(hour)));
    }

    private void needs() {
        FormworkYard yard = new FormworkYard();
        due("need(0) without pours", yard.need(0), 0);
        due("need(999) without pours", yard.need(999), 0);
        // busy from 0 to 4
        yard.plan(0, 10, 30, 1);
        due("need(0)", yard.need(0), 30);
        due("need(4)", yard.need(4), 30);
        due("need(5)", yard.need(5), 0);
        yard.setTemperature(500, 999, -10);
        // busy from 898 to the end
        yard.plan(900, 10, 29, 1);
        due("need(897)", yard.need(897), 0);
        due("need(898)", yard.need(898), 29);
        due("need(999)", yard.need(999), 29);
        for (int pour = 2; pour < 10; pour++) {
            yard.plan(900, 10, 30, 1);
        }
        due("need(999) of nine pours", yard.need(999), 29 + 8 * 30);
        yard.move(0, 900);
        due("need(999) of ten pours", yard.need(999), 29 + 9 * 30);
        due("need(0) of none of them", yard.need(0), 0);
    }

    private void testPeaks(Sentences promises) {
        promises.section("Promise 19");
        promises.sentence("Returns the greatest need of all hours, found by summing hour by hour.",
                () -> peaks("peak()", FormworkYard::peak));
        promises.section("Promise 20");
        promises.sentence("Returns the same, found from the pours that overlap where the panels of some "
                + "pour begin to stand.", () -> peaks("peakByOverlaps()", FormworkYard::peakByOverlaps));
    }

    private interface Peak {
        int of(FormworkYard yard);
    }

    private void peaks(String call, Peak peak) {
        FormworkYard yard = new FormworkYard();
        due(call + " without pours", peak.of(yard), 0);
        // busy from 8 to 14, and from 15 to 21
        yard.plan(10, 10, 8, 1);
        due(call + " of one", peak.of(yard), 8);
        yard.plan(17, 10, 7, 1);
        due(call + " of two, one behind the other", peak.of(yard), 8);
        yard.move(1, 16);
        due(call + " of two that share an hour", peak.of(yard), 15);
        yard.move(1, 4);
        due(call + " of two, the later told one ahead by an hour shared", peak.of(yard), 15);
        yard.move(1, 3);
        due(call + " of two, the later told one ahead", peak.of(yard), 8);
        yard.move(0, 0);
        yard.move(1, 2);
        due(call + " from hour 0 on", peak.of(yard), 15);
        yard.plan(900, 10, 30, 1);
        due(call + " at 900", peak.of(yard), 30);
        yard.setPanels(0);
        due(call + " without panels", peak.of(yard), 30);
        for (int pour = 3; pour < 10; pour++) {
            yard.plan(900, 10, 30, 1);
        }
        yard.setTemperature(0, 999, -10);
        due(call + " of ten, never struck", peak.of(yard), 8 * 30 + 15);
        for (int pour = 0; pour < 10; pour++) {
            yard.cancel(pour);
        }
        due(call + " without pours again", peak.of(yard), 0);
        for (int pour = 0; pour < 10; pour++) {
            yard.plan(0, 1, 30, 1);
        }
        due(call + ", the greatest that can be", peak.of(yard), 300);
    }

    private void testFirstShort(Sentences promises) {
        promises.section("Promise 21");
        promises.sentence("Returns the first hour whose need is greater than the number of panels that "
                + "the yard has; NONE if there is none.", this::firstShort);
    }

    private void firstShort() {
        FormworkYard yard = new FormworkYard();
        due("firstShort() without pours", yard.firstShort(), NONE);
        yard.setPanels(0);
        due("firstShort() without panels and pours", yard.firstShort(), NONE);
        yard.plan(900, 10, 1, 1);
        due("firstShort() without panels", yard.firstShort(), 898);
        yard.setPanels(1);
        due("firstShort() of 1 with 1", yard.firstShort(), NONE);
        yard.setCrew(0, 0);
        yard.setPanels(0);
        due("firstShort(), the greatest that can be", yard.firstShort(), 900);
        yard.move(0, 0);
        due("firstShort(), the least that can be", yard.firstShort(), 0);
        yard.setCrew(2, 3);
        yard.setPanels(60);
        yard.move(0, 100);
        yard.plan(100, 10, 30, 1);
        yard.plan(100, 10, 29, 1);
        due("firstShort() of 60 with 60", yard.firstShort(), NONE);
        // busy from 98 to 104, the fourth one from 104 on
        yard.plan(106, 10, 1, 1);
        due("firstShort() of 61 with 60", yard.firstShort(), 104);
        yard.setPanels(59);
        due("firstShort() of 60 with 59", yard.firstShort(), 98);
        yard.setPanels(60);
        yard.move(3, 107);
        due("firstShort(), the fourth one behind the others", yard.firstShort(), NONE);
        yard.move(3, 94);
        due("firstShort(), the fourth one ahead by an hour shared", yard.firstShort(), 98);
        yard.move(3, 93);
        due("firstShort(), the fourth one ahead of the others", yard.firstShort(), NONE);
    }

    // ---- promise 22

    private void testEarliest(Sentences promises) {
        promises.section("Promise 22");
        promises.sentence("Returns the least start, not before an hour, for which a new pour without "
                + "breaks would leave no hour in which its panels would be busy with a need greater than "
                + "the number of panels that the yard has. (Whether there are 10 pours does not matter.)",
                this::earliest);
        promises.sentence("- `from`: 0 to 900", this::earliestFrom);
        promises.sentence("- `volume`: 1 to 200", this::earliestOfVolume);
        promises.sentence("- `panels`: 1 to 30", this::earliestOfPanels);
        promises.sentence("- `strength`: 1 to 100", this::earliestOfStrength);
        promises.sentence("Returns the start; NONE if there is none up to 900.", this::earliestUpTo900);
        promises.sentence("Throws `IllegalArgumentException` if from, volume, panels or strength is out "
                + "of range", this::earliestRefused);
    }

    private void earliest() {
        earliestAboutOne();
        earliestAmongShortHours();
        earliestInTheCold();
        earliestToTheEnd();
        earliestOfEleven();
    }

    /** The new pour's panels would be busy from 2 hours ahead of its start to 4 hours behind it. */
    private void earliestAboutOne() {
        FormworkYard yard = new FormworkYard();
        // busy from 98 to 104
        yard.plan(100, 10, 15, 1);
        earliest(yard, 6, "of 6 beside 15", 0, 0, 93, 93, 94, 107, 100, 107, 106, 107, 107, 107, 108, 108);
        earliest(yard, 5, "of 5 beside 15", 93, 93, 94, 94, 100, 100, 107, 107);
        due("pours()", yard.pours(), 1);
        due("need(100)", yard.need(100), 15);
        due("plan at the earliest start", yard.plan(yard.earliest(94, 10, 6, 1), 10, 6, 1), 1);
        due("firstShort()", yard.firstShort(), NONE);
        // busy from 98 to 111 together
        earliest(yard, 15, "of 15 beside 15 and 6", 93, 93, 94, 114, 114, 114);
        earliest(yard, 14, "of 14 beside 15 and 6", 93, 93, 94, 107, 107, 107);
        FormworkYard first = new FormworkYard();
        // busy from 0 to 4
        first.plan(0, 10, 15, 1);
        earliest(first, 6, "behind one from hour 0 on", 0, 7, 6, 7, 7, 7);
        first.setCrew(24, 3);
        earliest(first, 6, "behind one from hour 0 on, set-up 24", 0, 29, 28, 29, 29, 29);
        first.setCrew(0, 0);
        earliest(first, 6, "behind one from hour 0 on, no crew", 0, 2, 1, 2, 2, 2);
        first.setCrew(24, 3);
        // busy from 2 to 30: the new one stands from hour 0 on and is in its way
        first.move(0, 26);
        earliest(first, 6, "ahead of one from hour 2 on", 0, 55, 55, 55);
    }

    private void earliestAmongShortHours() {
        FormworkYard yard = new FormworkYard();
        yard.plan(100, 10, 21, 1);
        due("firstShort()", yard.firstShort(), 98);
        earliest(yard, 1, "beside 21", 0, 0, 93, 93, 94, 107, 107, 107);
        earliest(yard, 20, "beside 21", 0, 0, 93, 93, 94, 107, 107, 107);
        earliest(yard, 21, "beside 21", 0, NONE, 500, NONE, 900, NONE);
        yard.setPanels(0);
        earliest(yard, 1, "without panels", 0, NONE, 107, NONE, 900, NONE);
        FormworkYard free = new FormworkYard();
        earliest(free, 20, "in a free yard", 0, 0, 1, 1, 899, 899, 900, 900);
        earliest(free, 21, "in a free yard", 0, NONE, 900, NONE);
    }

    private void earliestInTheCold() {
        FormworkYard yard = Yards.frozen();
        earliest(yard, 20, "never struck", 0, 0, 900, 900);
        // busy from 898 to the end
        yard.plan(900, 10, 15, 1);
        earliest(yard, 6, "never struck", 0, NONE, 900, NONE);
        earliest(yard, 5, "never struck", 0, 0, 900, 900);
        yard.setTemperature(500, 500, 10);
        earliest(yard, 6, "struck at 501", 0, 0, 499, 499, 500, NONE, 900, NONE);
        yard.setTemperature(500, 500, -10);
        yard.setTemperature(893, 893, 10);
        earliest(yard, 6, "free from 897 on", 0, 0, 892, 892, 893, NONE);
        yard.setCrew(2, 4);
        earliest(yard, 6, "free from 898 on", 0, 0, 892, 892, 893, NONE);
        yard.setCrew(2, 5);
        earliest(yard, 6, "free from 899 on", 0, NONE, 892, NONE, 893, NONE);
    }

    /** The new pour is struck, but its panels may be under cleaning to the end and beyond. */
    private void earliestToTheEnd() {
        int[] hours = {974, 975, 976, 997, 998, 999};
        for (int hour : hours) {
            FormworkYard yard = Yards.frozen();
            yard.setCrew(2, 24);
            yard.setTemperature(hour, hour, 10);
            String of = "with hour " + hour + " gaining 20";
            earliest(yard, 20, of, 0, 0, 900, 900);
            // struck at the same time
            yard.plan(500, 10, 15, 1);
            earliest(yard, 6, of + ", beside 15", 0, NONE, 900, NONE);
            earliest(yard, 5, of + ", beside 15", 0, 0, 900, 900);
        }
    }

    private void earliestOfEleven() {
        // busy from 48 to 70
        FormworkYard yard = Yards.ten();
        earliest(yard, 1, "of an eleventh", 0, 0, 43, 43, 44, 73, 73, 73);
        yard.setPanels(60);
        earliest(yard, 1, "of an eleventh with 60", 43, 43, 44, 73, 73, 73);
        yard.cancel(9);
        earliest(yard, 6, "of a tenth with 60", 43, 43, 44, 44);
        earliest(yard, 7, "of a tenth with 60", 43, 43, 44, 73);
    }

    /** Each from and the start that is due for it, for a pour of an hour and strength 1. */
    private void earliest(FormworkYard yard, int panels, String which, int... fromsAndStarts) {
        for (int i = 0; i + 1 < fromsAndStarts.length; i += 2) {
            int from = fromsAndStarts[i];
            due("earliest(" + from + ", 10, " + panels + ", 1) " + which,
                    yard.earliest(from, 10, panels, 1), fromsAndStarts[i + 1]);
        }
    }

    private void earliestFrom() {
        FormworkYard yard = new FormworkYard();
        earliest(yard, 1, "in a free yard", 0, 0, 1, 1, 899, 899, 900, 900);
        checks.refused("earliest(-1, 10, 1, 1)", ARGUMENT, () -> yard.earliest(-1, 10, 1, 1));
        checks.refused("earliest(901, 10, 1, 1)", ARGUMENT, () -> yard.earliest(901, 10, 1, 1));
        checks.range("earliest(?, 5, 5, 5)", 0, 900, ARGUMENT, (y, from) -> y.earliest(from, 5, 5, 5));
    }

    private void earliestOfVolume() {
        FormworkYard yard = new FormworkYard();
        yard.plan(400, 1, 15, 1);
        int[] volumes = {1, 10, 11, 200};
        int[] last = {393, 393, 392, 374};
        for (int i = 0; i < volumes.length; i++) {
            String of = " of volume " + volumes[i];
            due("earliest ahead of a pour" + of, yard.earliest(last[i], volumes[i], 6, 1), last[i]);
            due("earliest behind it" + of, yard.earliest(last[i] + 1, volumes[i], 6, 1), 407);
        }
        yard.setRates(1, 1);
        due("earliest of volume 200 at rate 1", yard.earliest(194, 200, 6, 1), 194);
        due("earliest of volume 200 at rate 1, behind", yard.earliest(195, 200, 6, 1), 407);
        due("earliest(900) of volume 200 at rate 1", yard.earliest(900, 200, 6, 1), 900);
        checks.range("earliest(5, ?, 5, 5)", 1, 200, ARGUMENT, (y, value) -> y.earliest(5, value, 5, 5));
    }

    private void earliestOfPanels() {
        FormworkYard yard = new FormworkYard();
        yard.setPanels(30);
        due("earliest(0, 10, 30, 1) with 30", yard.earliest(0, 10, 30, 1), 0);
        yard.plan(100, 10, 29, 1);
        due("earliest(100, 10, 1, 1) beside 29", yard.earliest(100, 10, 1, 1), 100);
        due("earliest(100, 10, 2, 1) beside 29", yard.earliest(100, 10, 2, 1), 107);
        due("earliest(100, 10, 30, 1) beside 29", yard.earliest(100, 10, 30, 1), 107);
        yard.setPanels(29);
        due("earliest(0, 10, 30, 1) with 29", yard.earliest(0, 10, 30, 1), NONE);
        due("earliest(100, 10, 1, 1) with 29", yard.earliest(100, 10, 1, 1), 107);
        yard.setPanels(1);
        due("earliest(0, 10, 1, 1) with 1", yard.earliest(0, 10, 1, 1), 0);
        due("earliest(0, 10, 2, 1) with 1", yard.earliest(0, 10, 2, 1), NONE);
        checks.range("earliest(5, 5, ?, 5)", 1, 30, ARGUMENT, (y, value) -> y.earliest(5, 5, value, 5));
    }

    private void earliestOfStrength() {
        FormworkYard yard = new FormworkYard();
        yard.plan(400, 10, 15, 1);
        // struck 1, 17, 164 and 167 hours behind its end
        int[] strengths = {1, 25, 99, 100};
        int[] last = {393, 377, 230, 227};
        for (int i = 0; i < strengths.length; i++) {
            String of = " of strength " + strengths[i];
            due("earliest ahead of a pour" + of, yard.earliest(last[i], 10, 6, strengths[i]), last[i]);
            due("earliest behind it" + of, yard.earliest(last[i] + 1, 10, 6, strengths[i]), 407);
        }
        checks.range("earliest(5, 5, 5, ?)", 1, 100, ARGUMENT, (y, value) -> y.earliest(5, 5, 5, value));
    }

    private void earliestUpTo900() {
        FormworkYard yard = new FormworkYard();
        // busy from 891 to 897
        yard.plan(893, 10, 15, 1);
        earliest(yard, 6, "behind one to 897", 0, 0, 886, 886, 887, 900, 899, 900, 900, 900);
        // busy from 892 to 898
        yard.move(0, 894);
        earliest(yard, 6, "behind one to 898", 0, 0, 887, 887, 888, NONE, 899, NONE, 900, NONE);
        yard.move(0, 892);
        earliest(yard, 6, "behind one to 896", 885, 885, 886, 899, 899, 899, 900, 900);
    }

    private void earliestRefused() {
        FormworkYard yard = new FormworkYard();
        checks.refused("earliest(901, 5, 5, 5)", ARGUMENT, () -> yard.earliest(901, 5, 5, 5));
        checks.refused("earliest(-1, 5, 5, 5)", ARGUMENT, () -> yard.earliest(-1, 5, 5, 5));
        checks.refused("earliest(5, 201, 5, 5)", ARGUMENT, () -> yard.earliest(5, 201, 5, 5));
        checks.refused("earliest(5, 0, 5, 5)", ARGUMENT, () -> yard.earliest(5, 0, 5, 5));
        checks.refused("earliest(5, 5, 31, 5)", ARGUMENT, () -> yard.earliest(5, 5, 31, 5));
        checks.refused("earliest(5, 5, 0, 5)", ARGUMENT, () -> yard.earliest(5, 5, 0, 5));
        checks.refused("earliest(5, 5, 5, 101)", ARGUMENT, () -> yard.earliest(5, 5, 5, 101));
        checks.refused("earliest(5, 5, 5, 0)", ARGUMENT, () -> yard.earliest(5, 5, 5, 0));
        yard.setPanels(0);
        checks.refused("earliest(901, 5, 5, 5) without panels", ARGUMENT,
                () -> yard.earliest(901, 5, 5, 5));
        unchanged("earliest(901, 0, 31, 101)", ARGUMENT, y -> y.earliest(901, 0, 31, 101));
        unchanged("earliest(max, max, max, max)", ARGUMENT, y -> y.earliest(Integer.MAX_VALUE,
                Integer.MAX_VALUE, Integer.MAX_VALUE, Integer.MAX_VALUE));
        unchanged("earliest(min, min, min, min)", ARGUMENT, y -> y.earliest(Integer.MIN_VALUE,
                Integer.MIN_VALUE, Integer.MIN_VALUE, Integer.MIN_VALUE));
    }

    // ---- promises 23 and 24

    private void testPanelsOf(Sentences promises) {
        promises.section("Promise 23");
        promises.sentence("Returns how many panels a pour gets.", this::panelsGot);
        promises.sentence("Throws `java` .util.NoSuchElementException if there is no such pour", () -> {
            checks.pourNumbers("panelsOf(?)", (y, pour) -> y.panelsOf(pour));
            FormworkYard yard = new FormworkYard();
            yard.setPanels(0);
            checks.refused("panelsOf(0) without pours and panels", MISSING, () -> yard.panelsOf(0));
        });
    }

    private void panelsGot() {
        FormworkYard yard = new FormworkYard();
        // busy from 8 to 14
        yard.plan(10, 10, 20, 1);
        due("panelsOf(0), just enough", yard.panelsOf(0), 20);
        yard.plan(16, 10, 1, 1);
        due("panelsOf(1), none being left in its first hour", yard.panelsOf(1), 0);
        yard.move(1, 17);
        due("panelsOf(1), all being free in its first hour", yard.panelsOf(1), 1);
        yard.setPanels(21);
        yard.move(1, 16);
        due("panelsOf(1), one being left", yard.panelsOf(1), 1);
        yard.setPanels(19);
        due("panelsOf(0), one being too few", yard.panelsOf(0), 19);
        due("panelsOf(1), none being left", yard.panelsOf(1), 0);
        yard.setPanels(1);
        due("panelsOf(0) with 1", yard.panelsOf(0), 1);
        yard.setPanels(0);
        due("panelsOf(0) with 0", yard.panelsOf(0), 0);
        due("panelsOf(1) with 0", yard.panelsOf(1), 0);
        FormworkYard ten = Yards.ten();
        int[] wanted = {6, 6, 6, 2, 0, 0, 0, 0, 0, 0};
        for (int pour = 0; pour < 10; pour++) {
            due("panelsOf(" + pour + ") of ten with 20", ten.panelsOf(pour), wanted[pour]);
        }
        ten.setPanels(60);
        for (int pour = 0; pour < 10; pour++) {
            due("panelsOf(" + pour + ") of ten with 60", ten.panelsOf(pour), 6);
        }
        ten.setPanels(59);
        due("panelsOf(9) of ten with 59", ten.panelsOf(9), 5);
    }

    private void testPourOf(Sentences promises) {
        promises.section("Promise 24");
        promises.sentence("Returns the pour with which a panel is busy in an hour.", this::poursOfPanels);
        promises.sentence("Returns the pour; NONE if it is with none.", this::panelsOfNone);
        promises.sentence("Throws `IndexOutOfBoundsException` if there is no such panel, or hour is not 0 "
                + "to 999", this::pourOfRefused);
    }

    private void poursOfPanels() {
        FormworkYard yard = Yards.ten();
        yard.setPanels(60);
        for (int panel = 0; panel < 60; panel++) {
            due("pourOf(" + panel + ", 50)", yard.pourOf(panel, 50), panel / 6);
        }
        int[] panels = {0, 59};
        int[] pours = {0, 9};
        for (int i = 0; i < panels.length; i++) {
            due("pourOf, ahead of 48", yard.pourOf(panels[i], 47), NONE);
            due("pourOf, at 48", yard.pourOf(panels[i], 48), pours[i]);
            due("pourOf, at 70", yard.pourOf(panels[i], 70), pours[i]);
            due("pourOf, behind 70", yard.pourOf(panels[i], 71), NONE);
        }
        yard.move(9, 900);
        yard.setTemperature(800, 999, -10);
        due("pourOf(0, 897)", yard.pourOf(0, 897), NONE);
        due("pourOf(0, 898)", yard.pourOf(0, 898), 9);
        due("pourOf(0, 999)", yard.pourOf(0, 999), 9);
        due("pourOf(5, 999)", yard.pourOf(5, 999), 9);
        due("pourOf(6, 999)", yard.pourOf(6, 999), NONE);
        yard.move(9, 0);
        due("pourOf(0, 0)", yard.pourOf(0, 0), 9);
    }

    private void panelsOfNone() {
        FormworkYard yard = new FormworkYard();
        due("pourOf(0, 0) without pours", yard.pourOf(0, 0), NONE);
        due("pourOf(19, 999) without pours", yard.pourOf(19, 999), NONE);
        // busy from 8 to 14, and from 15 to 21
        yard.plan(10, 10, 5, 1);
        yard.plan(17, 10, 4, 1);
        int[] hours = {7, 8, 14, 15, 21, 22};
        int[] ofPanel0 = {NONE, 0, 0, 1, 1, NONE};
        int[] ofPanel4 = {NONE, 0, 0, NONE, NONE, NONE};
        for (int i = 0; i < hours.length; i++) {
            due("pourOf(0, " + hours[i] + ")", yard.pourOf(0, hours[i]), ofPanel0[i]);
            due("pourOf(4, " + hours[i] + ")", yard.pourOf(4, hours[i]), ofPanel4[i]);
            due("pourOf(5, " + hours[i] + ")", yard.pourOf(5, hours[i]), NONE);
        }
        yard.cancel(0);
        due("pourOf(0, 8), cancelled", yard.pourOf(0, 8), NONE);
        due("pourOf(0, 15)", yard.pourOf(0, 15), 1);
        yard.cancel(1);
        due("pourOf(0, 15), cancelled", yard.pourOf(0, 15), NONE);
    }

    private void pourOfRefused() {
        // both yards have 17 panels
        checks.range("pourOf(?, 5)", 0, 16, INDEX, (y, panel) -> y.pourOf(panel, 5));
        checks.range("pourOf(5, ?)", 0, 999, INDEX, (y, hour) -> y.pourOf(5, hour));
        unchanged("pourOf(17, 1000)", INDEX, y -> y.pourOf(17, 1000));
        unchanged("pourOf(-1, -1)", INDEX, y -> y.pourOf(-1, -1));
        int[] counts = {0, 1, 20, 60};
        for (int count : counts) {
            FormworkYard yard = new FormworkYard();
            yard.setPanels(count);
            String of = " with " + count;
            int[] outside = {-1, count, 64, 64 + count, Integer.MAX_VALUE, Integer.MIN_VALUE};
            for (int panel : outside) {
                checks.refused("pourOf(" + panel + ", 0)" + of, INDEX, () -> yard.pourOf(panel, 0));
            }
            if (count > 0) {
                due("pourOf(0, 999)" + of, yard.pourOf(0, 999), NONE);
                due("pourOf(" + (count - 1) + ", 0)" + of, yard.pourOf(count - 1, 0), NONE);
            }
        }
    }

    private void due(String call, long got, long want) {
        checks.due(call, got, want);
    }

    private void unchanged(String call, Class<? extends RuntimeException> due,
            Checks.Change change) {
        checks.refusedUnchanged(call, due, change);
    }
}
