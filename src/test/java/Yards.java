import java.util.NoSuchElementException;

/** Yards that tests begin with, and what can be seen of one. */
final class Yards {
    private Yards() {
    }

    /** Ten pours, number 0 with 4 breaks, others with fewer; panels are short in some hours. */
    static FormworkYard busy() {
        FormworkYard yard = new FormworkYard();
        yard.setTemperature(100, 400, 12);
        yard.setPanels(17);
        yard.setRates(9, 7);
        yard.setCrew(4, 5);
        for (int i = 0; i < 10; i++) {
            yard.plan(20 + 40 * i, 15 + 13 * i, 4 + i, 20 + 7 * i);
        }
        for (int i = 0; i < 4; i++) {
            yard.delay(0, 3 * i, 2 + i);
        }
        yard.delay(1, 4, 5);
        return yard;
    }

    /** Some 400 calls, so that a yard bears one picture within its 512 calls. */
    static String picture(FormworkYard yard) {
        StringBuilder text = new StringBuilder();
        for (int hour = 0; hour < 1000; hour += 37) {
            text.append(yard.temperature(hour)).append(' ');
            text.append(yard.maturity(0, hour)).append(' ');
            text.append(yard.need(hour)).append(' ');
        }
        text.append("/ ").append(yard.pours());
        text.append(' ').append(yard.peak()).append(' ').append(yard.peakByOverlaps());
        text.append(' ').append(yard.firstShort()).append(' ');
        text.append(yard.earliest(30, 50, 6, 40)).append(" /");
        for (int pour = 0; pour < 10; pour++) {
            addPour(text, yard, pour);
        }
        for (int panel = 0; panel < 60; panel += 4) {
            for (int hour = 20; hour < 1000; hour += 110) {
                text.append(panelAt(yard, panel, hour)).append(' ');
            }
        }
        text.append("/ ").append(yard.setPanels(20));
        return text.toString();
    }

    private static void addPour(StringBuilder text, FormworkYard yard, int pour) {
        try {
            text.append(yard.endOf(pour)).append(' ').append(yard.coldJoints(pour)).append(' ');
            text.append(yard.struck(pour)).append(' ').append(yard.freeFrom(pour)).append(' ');
            text.append(yard.panelsOf(pour)).append(" / ");
        } catch (NoSuchElementException none) {
            text.append("none / ");
        }
    }

    private static String panelAt(FormworkYard yard, int panel, int hour) {
        try {
            return Integer.toString(yard.pourOf(panel, hour));
        } catch (IndexOutOfBoundsException none) {
            return "none";
        }
    }
}
