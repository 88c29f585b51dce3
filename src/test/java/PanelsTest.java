import java.util.NoSuchElementException;

/** Promises 18 to 24: panels. */
public final class PanelsTest {
    private static final Checks CHECKS = new Checks();
    private static final int NONE = FormworkYard.NONE;

    private PanelsTest() {
    }

    public static void main(String[] args) {
        promise18Need();
        promises19And20Peak();
        promise21FirstShort();
        promise22Earliest();
        promise22Edges();
        promise22Refusals();
        promise23PanelsOf();
        promises23And24TenPours();
        promise24PourOf();
        promise24Refusals();
        CHECKS.end("PanelsTest");
    }

    private static void promise18Need() {
        FormworkYard yard = new FormworkYard();
        yard.plan(10, 25, 8, 25);
        yard.plan(33, 10, 30, 25);
        due("need(7)", yard.need(7), 0);
        due("need(8)", yard.need(8), 8);
        due("need(30), under cleaning", yard.need(30), 8);
        due("need(31), both, beyond the panels", yard.need(31), 38);
        due("need(32), both", yard.need(32), 38);
        due("need(33)", yard.need(33), 30);
        due("need(53)", yard.need(53), 30);
        due("need(54)", yard.need(54), 0);
        yard.setCrew(24, 3);
        due("need(0), standing from hour 0 on", yard.need(0), 8);
        due("need(8) with 24 hours of set-up", yard.need(8), 8);
        due("need(9) with 24 hours of set-up", yard.need(9), 38);
        yard.setTemperature(0, 999, -40);
        due("need(999), never struck", yard.need(999), 38);
        Class<IndexOutOfBoundsException> index = IndexOutOfBoundsException.class;
        CHECKS.refusedUnchanged("need(-1)", index, y -> y.need(-1));
        CHECKS.refusedUnchanged("need(1000)", index, y -> y.need(1000));
        CHECKS.refusedUnchanged("need(min)", index, y -> y.need(Integer.MIN_VALUE));
        CHECKS.refusedUnchanged("need(max)", index, y -> y.need(Integer.MAX_VALUE));
    }

    private static void promises19And20Peak() {
        FormworkYard yard = new FormworkYard();
        peaks("without pours", yard, 0);
        yard.plan(10, 25, 8, 25);
        peaks("of one", yard, 8);
        yard.plan(35, 10, 7, 25);
        peaks("of two, the other standing when the one is free", yard, 8);
        yard.move(1, 34);
        peaks("of two that share an hour", yard, 15);
        yard.plan(200, 10, 30, 25);
        peaks("of three, the last one alone", yard, 30);
        yard.cancel(2);
        yard.setTemperature(0, 999, -10);
        yard.plan(900, 10, 30, 25);
        peaks("of three that are never struck", yard, 45);
        yard.cancel(2);
        yard.move(0, 0);
        yard.move(1, 0);
        peaks("of two from hour 0 on", yard, 15);
        yard.setCrew(24, 0);
        peaks("of two from hour 0 on with set-up", yard, 15);
    }

    private static void peaks(String which, FormworkYard yard, int want) {
        due("peak() " + which, yard.peak(), want);
        due("peakByOverlaps() " + which, yard.peakByOverlaps(), want);
    }

    private static void promise21FirstShort() {
        FormworkYard yard = new FormworkYard();
        yard.plan(10, 25, 20, 25);
        due("firstShort() with just enough", yard.firstShort(), NONE);
        yard.plan(20, 25, 1, 25);
        due("firstShort() with one too few", yard.firstShort(), 18);
        yard.setPanels(21);
        due("firstShort() with one more", yard.firstShort(), NONE);
        yard.setPanels(0);
        due("firstShort() without panels", yard.firstShort(), 8);
        yard.move(0, 0);
        due("firstShort() at hour 0", yard.firstShort(), 0);
        yard.cancel(0);
        yard.cancel(1);
        due("firstShort() without panels and pours", yard.firstShort(), NONE);
        yard.setPanels(29);
        yard.setCrew(0, 0);
        yard.setTemperature(0, 999, -10);
        yard.plan(900, 10, 30, 25);
        due("firstShort() at 900", yard.firstShort(), 900);
    }

    private static void promise22Earliest() {
        FormworkYard yard = new FormworkYard();
        due("earliest(0, 10, 20, 25) in a free yard", yard.earliest(0, 10, 20, 25), 0);
        due("earliest(900, 10, 20, 25) in a free yard", yard.earliest(900, 10, 20, 25), 900);
        due("earliest(0, 10, 21, 25) beyond the panels", yard.earliest(0, 10, 21, 25), NONE);
        yard.plan(100, 10, 15, 25);
        // the panels of that pour are busy from 98 to 120; those of a new one from 2 hours ahead
        // of its start to 21 hours behind it
        due("freeFrom(0)", yard.freeFrom(0), 121);
        due("earliest(0, 10, 6, 25)", yard.earliest(0, 10, 6, 25), 0);
        due("earliest(77, 10, 6, 25)", yard.earliest(77, 10, 6, 25), 77);
        due("earliest(78, 10, 6, 25)", yard.earliest(78, 10, 6, 25), 123);
        due("earliest(110, 10, 6, 25)", yard.earliest(110, 10, 6, 25), 123);
        due("earliest(123, 10, 6, 25)", yard.earliest(123, 10, 6, 25), 123);
        due("earliest(124, 10, 6, 25)", yard.earliest(124, 10, 6, 25), 124);
        due("earliest(78, 10, 5, 25), both having panels", yard.earliest(78, 10, 5, 25), 78);
        due("earliest(76, 11, 6, 25), an hour longer", yard.earliest(76, 11, 6, 25), 76);
        due("earliest(77, 11, 6, 25), an hour longer", yard.earliest(77, 11, 6, 25), 123);
        due("pours(), none having been planned", yard.pours(), 1);
    }

    private static void promise22Edges() {
        FormworkYard yard = new FormworkYard();
        yard.plan(10, 10, 25, 25);
        // hours that are short without the new pour's panels do not matter
        due("firstShort()", yard.firstShort(), 8);
        due("earliest(0, 10, 3, 25)", yard.earliest(0, 10, 3, 25), 33);
        due("earliest(500, 10, 20, 25)", yard.earliest(500, 10, 20, 25), 500);
        yard.setTemperature(600, 999, -10);
        yard.plan(900, 10, 15, 25);
        // 500 are there up to hour 600 for an end at 583, not for one at 584
        due("earliest(582, 10, 6, 25)", yard.earliest(582, 10, 6, 25), 582);
        due("earliest(583, 10, 6, 25), not struck in the cold", yard.earliest(583, 10, 6, 25), NONE);
        due("earliest(583, 10, 5, 25)", yard.earliest(583, 10, 5, 25), 583);
        due("earliest(900, 10, 5, 25)", yard.earliest(900, 10, 5, 25), 900);
        due("earliest(900, 10, 6, 25)", yard.earliest(900, 10, 6, 25), NONE);
        FormworkYard full = Yards.busy();
        due("pours() of a full yard", full.pours(), 10);
        due("earliest(0, 10, 1, 1) of a full yard", full.earliest(0, 10, 1, 1), 0);
        full.setPanels(0);
        due("earliest(0, 10, 1, 1) without panels", full.earliest(0, 10, 1, 1), NONE);
    }

    private static void promise22Refusals() {
        Class<IllegalArgumentException> argument = IllegalArgumentException.class;
        CHECKS.refusedUnchanged("earliest(-1, 5, 5, 5)", argument, y -> y.earliest(-1, 5, 5, 5));
        CHECKS.refusedUnchanged("earliest(901, 5, 5, 5)", argument, y -> y.earliest(901, 5, 5, 5));
        CHECKS.refusedUnchanged("earliest(5, 0, 5, 5)", argument, y -> y.earliest(5, 0, 5, 5));
        CHECKS.refusedUnchanged("earliest(5, 201, 5, 5)", argument, y -> y.earliest(5, 201, 5, 5));
        CHECKS.refusedUnchanged("earliest(5, 5, 0, 5)", argument, y -> y.earliest(5, 5, 0, 5));
        CHECKS.refusedUnchanged("earliest(5, 5, 31, 5)", argument, y -> y.earliest(5, 5, 31, 5));
        CHECKS.refusedUnchanged("earliest(5, 5, 5, 0)", argument, y -> y.earliest(5, 5, 5, 0));
        CHECKS.refusedUnchanged("earliest(5, 5, 5, 101)", argument, y -> y.earliest(5, 5, 5, 101));
    }

    private static void promise23PanelsOf() {
        FormworkYard yard = new FormworkYard();
        yard.setPanels(10);
        yard.plan(20, 10, 6, 25);
        yard.plan(20, 10, 6, 25);
        due("panelsOf(0), the lesser number first", yard.panelsOf(0), 6);
        due("panelsOf(1), what is left", yard.panelsOf(1), 4);
        yard.move(1, 19);
        due("panelsOf(1), standing first", yard.panelsOf(1), 6);
        due("panelsOf(0), what is left", yard.panelsOf(0), 4);
        yard.plan(21, 10, 3, 25);
        due("panelsOf(2), none being left", yard.panelsOf(2), 0);
        // it stands from 40 on, pour 1 is free from 40 on
        due("move(2, 42)", yard.move(2, 42), 21);
        due("freeFrom(1)", yard.freeFrom(1), 40);
        due("panelsOf(2), when pour 1 is free", yard.panelsOf(2), 3);
        yard.move(2, 41);
        due("panelsOf(2), an hour sooner", yard.panelsOf(2), 0);
        yard.setCrew(24, 3);
        // all stand from hour 0 on: by their numbers
        due("panelsOf(0) from hour 0 on", yard.panelsOf(0), 6);
        due("panelsOf(1) from hour 0 on", yard.panelsOf(1), 4);
        yard.setPanels(0);
        due("panelsOf(0) without panels", yard.panelsOf(0), 0);
        yard.setPanels(60);
        due("panelsOf(2) with all panels", yard.panelsOf(2), 3);
        Class<NoSuchElementException> missing = NoSuchElementException.class;
        CHECKS.refusedUnchanged("panelsOf(-1)", missing, y -> y.panelsOf(-1));
        CHECKS.refusedUnchanged("panelsOf(10)", missing, y -> y.panelsOf(10));
        CHECKS.refused("panelsOf(3) without pour 3", missing, () -> yard.panelsOf(3));
        yard.cancel(1);
        CHECKS.refused("panelsOf(1) cancelled", missing, () -> yard.panelsOf(1));
    }

    private static void promises23And24TenPours() {
        FormworkYard yard = new FormworkYard();
        yard.setPanels(60);
        for (int pour = 0; pour < 10; pour++) {
            yard.plan(50, 10, 6, 25);
        }
        for (int pour = 0; pour < 10; pour++) {
            due("panelsOf(" + pour + ") of ten", yard.panelsOf(pour), 6);
            due("pourOf, lowest panel", yard.pourOf(6 * pour, 50), pour);
            due("pourOf, highest panel", yard.pourOf(6 * pour + 5, 50), pour);
        }
        yard.move(9, 49);
        due("pourOf(0, 50), pour 9 standing first", yard.pourOf(0, 50), 9);
        due("pourOf(6, 50), pour 9 standing first", yard.pourOf(6, 50), 0);
        due("pourOf(59, 50), pour 9 standing first", yard.pourOf(59, 50), 8);
        due("pourOf(0, 47), pour 9 standing first", yard.pourOf(0, 47), 9);
        due("pourOf(6, 47), pour 9 standing first", yard.pourOf(6, 47), NONE);
    }

    private static void promise24PourOf() {
        FormworkYard yard = new FormworkYard();
        due("pourOf(0, 0) without pours", yard.pourOf(0, 0), NONE);
        due("pourOf(19, 999) without pours", yard.pourOf(19, 999), NONE);
        // busy from 18 to 40, 28 to 50 and 41 to 63
        yard.plan(20, 10, 6, 25);
        yard.plan(30, 10, 4, 25);
        yard.plan(43, 10, 8, 25);
        int[] panels = {0, 0, 0, 0, 5, 5, 6, 6, 6, 9, 9, 10, 10, 11, 11, 12, 0, 11, 0, 11};
        int[] hours = {17, 18, 40, 41, 18, 40, 27, 28, 50, 50, 51, 40, 41, 41, 63, 45, 63, 40, 64, 64};
        int[] pours = {-1, 0, 0, 2, 0, 0, -1, 1, 1, 1, -1, -1, 2, 2, 2, -1, 2, -1, -1, -1};
        for (int i = 0; i < panels.length; i++) {
            due("pourOf(" + panels[i] + ", " + hours[i] + ")",
                    yard.pourOf(panels[i], hours[i]), pours[i]);
        }
        yard.cancel(0);
        due("pourOf(0, 28) behind cancel(0)", yard.pourOf(0, 28), 1);
        due("pourOf(4, 41) behind cancel(0)", yard.pourOf(4, 41), 2);
        due("pourOf(3, 41) behind cancel(0)", yard.pourOf(3, 41), 1);
        yard.setPanels(60);
        yard.setTemperature(0, 999, -40);
        yard.plan(900, 10, 30, 25);
        yard.plan(900, 10, 30, 25);
        due("pourOf(12, 999)", yard.pourOf(12, 999), 0);
        due("pourOf(41, 999)", yard.pourOf(41, 999), 0);
        due("pourOf(42, 999)", yard.pourOf(42, 999), 3);
        due("pourOf(59, 999)", yard.pourOf(59, 999), 3);
        due("pourOf(59, 897)", yard.pourOf(59, 897), NONE);
        due("pourOf(59, 898)", yard.pourOf(59, 898), 3);
        due("panelsOf(3)", yard.panelsOf(3), 18);
    }

    private static void promise24Refusals() {
        Class<IndexOutOfBoundsException> index = IndexOutOfBoundsException.class;
        // that yard has 17 panels
        CHECKS.refusedUnchanged("pourOf(17, 5)", index, y -> y.pourOf(17, 5));
        CHECKS.refusedUnchanged("pourOf(-1, 5)", index, y -> y.pourOf(-1, 5));
        CHECKS.refusedUnchanged("pourOf(16, -1)", index, y -> y.pourOf(16, -1));
        CHECKS.refusedUnchanged("pourOf(16, 1000)", index, y -> y.pourOf(16, 1000));
        CHECKS.refusedUnchanged("pourOf(max, min)", index,
                y -> y.pourOf(Integer.MAX_VALUE, Integer.MIN_VALUE));
        FormworkYard yard = new FormworkYard();
        yard.setPanels(0);
        CHECKS.refused("pourOf(0, 0) without panels", index, () -> yard.pourOf(0, 0));
    }

    private static void due(String call, long got, long want) {
        CHECKS.due(call, got, want);
    }
}
