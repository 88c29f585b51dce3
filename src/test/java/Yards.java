import java.util.List;
import java.util.NoSuchElementException;
import java.util.function.Function;

/** Yards that tests begin with, and what can be seen of one. */
final class Yards {
    /** Each bears one yard's whole look within its 512 calls; together they see all of it. */
    static final List<Function<FormworkYard, String>> LOOKS = List.of(Yards::picture, Yards::later,
            yard -> history(yard, 0), yard -> history(yard, 5), yard -> temperatures(yard, 0),
            yard -> temperatures(yard, 400), yard -> temperatures(yard, 800));

    private Yards() {
    }

    /** Ten pours, number 0 with 4 breaks, others with fewer; panels are short in some hours. */
    static FormworkYard busy() {
        FormworkYard yard = new FormworkYard();
        yard.setTemperature(100, 400, 12);
        yard.setPanels(17);
        yard.setRates(9, 7);
        yard.setCrew(4, 5);
        for (int i = 0; i < 10; i++) {
            yard.plan(20 + 40 * i, 15 + 13 * i, 4 + i, 20 + 7 * i);
        }
        for (int i = 0; i < 4; i++) {
            yard.delay(0, 3 * i, 2 + i);
        }
        yard.delay(1, 4, 5);
        return yard;
    }

    /** The busy yard with pours 1 and 3 alone. */
    static FormworkYard roomy() {
        FormworkYard yard = busy();
        for (int pour = 0; pour < 10; pour++) {
            if (pour != 1 && pour != 3) {
                yard.cancel(pour);
            }
        }
        return yard;
    }

    /** Ten pours alike, without breaks. */
    static FormworkYard ten() {
        FormworkYard yard = new FormworkYard();
        for (int pour = 0; pour < 10; pour++) {
            yard.plan(50, 10, 6, 25);
        }
        return yard;
    }

    /** A yard in which no hour gains. */
    static FormworkYard frozen() {
        FormworkYard yard = new FormworkYard();
        yard.setTemperature(0, 999, -10);
        return yard;
    }

    /** Lets each of the hours gain 45, so that two of them make a cold joint and one does not. */
    static void warm(FormworkYard yard, int... hours) {
        for (int hour : hours) {
            yard.setTemperature(hour, hour, 35);
        }
    }

    /** What the calls that ask tell, in some 300 calls. */
    static String picture(FormworkYard yard) {
        StringBuilder text = new StringBuilder();
        for (int hour = 0; hour < 1000; hour += 37) {
            text.append(yard.temperature(hour)).append(' ');
            text.append(yard.maturity(0, hour)).append(' ');
            text.append(yard.need(hour)).append(' ');
        }
        text.append("/ ").append(yard.pours());
        text.append(' ').append(yard.peak()).append(' ').append(yard.peakByOverlaps());
        text.append(' ').append(yard.firstShort()).append(' ');
        text.append(yard.earliest(30, 50, 6, 40)).append(" /");
        for (int pour = 0; pour < 10; pour++) {
            addPour(text, yard, pour);
        }
        for (int panel = 0; panel < 60; panel += 4) {
            for (int hour = 20; hour < 1000; hour += 110) {
                text.append(panelAt(yard, panel, hour)).append(' ');
            }
        }
        text.append("/ ").append(yard.setPanels(20));
        return text.toString();
    }

    private static void addPour(StringBuilder text, FormworkYard yard, int pour) {
        try {
            text.append(yard.endOf(pour)).append(' ').append(yard.coldJoints(pour)).append(' ');
            text.append(yard.struck(pour)).append(' ').append(yard.freeFrom(pour)).append(' ');
            text.append(yard.panelsOf(pour)).append(" / ");
        } catch (NoSuchElementException none) {
            text.append("none / ");
        }
    }

    private static String panelAt(FormworkYard yard, int panel, int hour) {
        try {
            return Integer.toString(yard.pourOf(panel, hour));
        } catch (IndexOutOfBoundsException none) {
            return "none";
        }
    }

    /** What the yard works out anew, at its rate and with its crew, in some 450 calls. */
    private static String later(FormworkYard yard) {
        StringBuilder text = new StringBuilder();
        yard.setTemperature(0, 0, 3);
        for (int hour = 0; hour < 400; hour++) {
            text.append(yard.need(hour)).append(' ');
        }
        for (int pour = 0; pour < 10; pour++) {
            addPour(text, yard, pour);
        }
        return text.toString();
    }

    private static String temperatures(FormworkYard yard, int from) {
        StringBuilder text = new StringBuilder();
        for (int hour = from; hour < from + 400 && hour < 1000; hour++) {
            text.append(yard.temperature(hour)).append(' ');
        }
        return text.toString();
    }

    /** What calls that change the yard let see of five pours, in some 330 calls: starts, breaks .. */
    private static String history(FormworkYard yard, int from) {
        StringBuilder text = new StringBuilder();
        yard.setTemperature(0, 999, -10);
        yard.setTemperature(500, 501, 50);
        text.append(yard.setRates(1, 1)).append(' ');
        for (int pour = from; pour < from + 5; pour++) {
            addHistory(text, yard, pour);
            addPanels(text, yard, pour);
        }
        return text.toString();
    }

    private static void addHistory(StringBuilder text, FormworkYard yard, int pour) {
        try {
            text.append(yard.endOf(pour)).append(' ').append(yard.move(pour, 502)).append(' ');
            // only a break that lasts through 500 and 501 counts: the steps tell where each begins
            for (int start = 501; start > 471; start--) {
                yard.move(pour, start);
                text.append(yard.coldJoints(pour)).append(' ');
            }
            text.append(yard.delay(pour, 0, 1)).append(' ');
        } catch (NoSuchElementException | IllegalStateException none) {
            text.append("none ");
        }
    }

    private static void addPanels(StringBuilder text, FormworkYard yard, int pour) {
        try {
            text.append(yard.cancel(pour)).append(" / ");
        } catch (NoSuchElementException none) {
            text.append("none / ");
        }
    }
}
