import java.util.Arrays;
import java.util.NoSuchElementException;

/**
 * Formwork Yard, a planner of concrete pours: pours are made as fast as trucks and pump allow,
 * maturity is summed from the temperature hour by hour, panels are struck when the strength is
 * there, cleaned and used again, and breaks in a pour leave cold joints.
 */
public final class FormworkYard {
    public static final int NONE = -1;

    private static final int HOURS = 1000;
    private static final int LAST_START = 900;
    private static final int LEAST_TEMPERATURE = -40;
    private static final int MOST_TEMPERATURE = 50;
    private static final int MOST_MATURITY = 1000000;
    private static final int MOST_VOLUME = 200;
    private static final int MOST_STRENGTH = 100;
    private static final int MOST_RATE = 50;
    private static final int MOST_CREW_HOURS = 24;
    private static final int MOST_PANELS = 60;
    private static final int MOST_PANELS_OF_POUR = 30;
    private static final int MOST_POURS = 10;
    private static final int MOST_BREAKS = 4;
    private static final int MOST_BREAK_HOURS = 9;
    private static final int COLD_MATURITY = 90;

    /** Each of these maturities gives STRENGTH_OF_STEP more than the one ahead of it. */
    private static final int[] STEPS = {0, 500, 1200, 2500, 5000};
    private static final int STRENGTH_OF_STEP = 25;

    /** This and its halves down to 1 are together more than HOURS. */
    private static final int LONGEST_LEAP = 512;

    private final int[] temperatures = new int[HOURS];
    /** The sum of the gains of all hours before an hour, so that a maturity is one difference. */
    private final int[] gained = new int[HOURS + 1];
    private final int[] needs = new int[HOURS];
    /** The first hour from an hour on that has too few panels for a further pour; HOURS if none. */
    private final int[] nextFull = new int[HOURS + 1];
    private final Pour[] pourList = new Pour[MOST_POURS];
    private int yardPanels = 20;
    private int rate = 10;
    private int setUpHours = 2;
    private int cleaningHours = 3;

    /** A pour as it was told, and what follows from that and from the yard as it is now. */
    private static final class Pour {
        private final int volume;
        private final int panels;
        private final int wanted;
        private int start;
        private int breaks;
        private final int[] parts = new int[MOST_BREAKS];
        private final int[] lengths = new int[MOST_BREAKS];

        private int end;
        private int strike;
        private int busyFrom;
        private int busyUntil;

        /** Bit n stands for panel n. */
        private long given;
        private boolean served;

        private Pour(int start, int volume, int panels, int wanted) {
            this.start = start;
            this.volume = volume;
            this.panels = panels;
            this.wanted = wanted;
        }

        private void addBreak(int part, int hours) {
            if (breaks < 0 || breaks >= MOST_BREAKS) {
                return;
            }
            int place = breaks;
            // a break behind the same part stays ahead of the new one
            while (place > 0 && parts[place - 1] > part) {
                parts[place] = parts[place - 1];
                lengths[place] = lengths[place - 1];
                place--;
            }
            parts[place] = part;
            lengths[place] = hours;
            breaks++;
        }

        private int hoursOfBreaks() {
            int sum = 0;
            for (int i = 0; i < breaks && i < MOST_BREAKS; i++) {
                sum += lengths[i];
            }
            return sum;
        }

        private boolean isBusy(int hour) {
            return busyFrom <= hour && hour < busyUntil;
        }
    }

    public FormworkYard() {
        Arrays.fill(temperatures, 20);
        sumGains();
    }

    // ---- the yard

    public void setTemperature(int from, int to, int temperature)
            throws IndexOutOfBoundsException, IllegalArgumentException {
        requireHour(from);
        requireHour(to);
        require(from <= to);
        requireRange(temperature, LEAST_TEMPERATURE, MOST_TEMPERATURE);
        for (int hour = from; hour <= to && hour < HOURS; hour++) {
            temperatures[hour] = temperature;
        }
        sumGains();
        scheduleAll();
    }

    public int temperature(int hour) throws IndexOutOfBoundsException {
        requireHour(hour);
        return temperatures[hour];
    }

    public int maturity(int from, int to) throws IndexOutOfBoundsException {
        requireHour(from);
        requireHour(to);
        return gainBetween(from, to);
    }

    public int strength(int maturity) throws IllegalArgumentException {
        requireRange(maturity, 0, MOST_MATURITY);
        return strengthAt(maturity);
    }

    public int setPanels(int panels) throws IllegalArgumentException {
        requireRange(panels, 0, MOST_PANELS);
        int before = yardPanels;
        yardPanels = panels;
        return before;
    }

    public int setRates(int trucks, int pump) throws IllegalArgumentException {
        requireRange(trucks, 1, MOST_RATE);
        requireRange(pump, 1, MOST_RATE);
        rate = Math.min(trucks, pump);
        scheduleAll();
        return rate;
    }

    public void setCrew(int setUp, int cleaning) throws IllegalArgumentException {
        requireRange(setUp, 0, MOST_CREW_HOURS);
        requireRange(cleaning, 0, MOST_CREW_HOURS);
        setUpHours = setUp;
        cleaningHours = cleaning;
        scheduleAll();
    }

    // ---- pours

    public int plan(int start, int volume, int panels, int strength)
            throws IllegalArgumentException, IllegalStateException {
        requirePour(start, volume, panels, strength);
        int number = freeNumber();
        if (!isNumber(number)) {
            throw new IllegalStateException();
        }
        Pour added = new Pour(start, volume, panels, strength);
        schedule(added);
        pourList[number] = added;
        return number;
    }

    public int move(int pour, int start) throws NoSuchElementException, IllegalArgumentException {
        Pour moved = existing(pour);
        requireRange(start, 0, LAST_START);
        int before = moved.start;
        moved.start = start;
        schedule(moved);
        return before;
    }

    public int cancel(int pour) throws NoSuchElementException {
        Pour cancelled = existing(pour);
        pourList[pour] = null;
        return cancelled.panels;
    }

    public int delay(int pour, int part, int hours)
            throws NoSuchElementException, IllegalArgumentException, IllegalStateException {
        Pour delayed = existing(pour);
        requireRange(part, 0, delayed.volume - 1);
        requireRange(hours, 1, MOST_BREAK_HOURS);
        if (delayed.breaks >= MOST_BREAKS) {
            throw new IllegalStateException();
        }
        delayed.addBreak(part, hours);
        schedule(delayed);
        return delayed.breaks;
    }

    public int pours() {
        int count = 0;
        for (Pour pour : pourList) {
            if (pour != null) {
                count++;
            }
        }
        return count;
    }

    public int endOf(int pour) throws NoSuchElementException {
        Pour asked = existing(pour);
        return asked.end;
    }

    public int coldJoints(int pour) throws NoSuchElementException {
        Pour asked = existing(pour);
        int cold = 0;
        int hoursAhead = 0;
        for (int i = 0; i < asked.breaks && i < MOST_BREAKS; i++) {
            int begin = asked.start + fullHours(asked.parts[i]) + hoursAhead;
            int length = asked.lengths[i];
            if (gainBetween(begin, begin + length) >= COLD_MATURITY) {
                cold++;
            }
            hoursAhead += length;
        }
        return cold;
    }

    public int struck(int pour) throws NoSuchElementException {
        Pour asked = existing(pour);
        return asked.strike;
    }

    public int freeFrom(int pour) throws NoSuchElementException {
        Pour asked = existing(pour);
        return asked.busyUntil < HOURS ? asked.busyUntil : NONE;
    }

    // ---- panels

    public int need(int hour) throws IndexOutOfBoundsException {
        requireHour(hour);
        return needIn(hour);
    }

    public int peak() {
        sumNeeds();
        int most = 0;
        for (int sum : needs) {
            most = Math.max(most, sum);
        }
        return most;
    }

    public int peakByOverlaps() {
        int most = 0;
        for (Pour pour : pourList) {
            if (pour != null) {
                most = Math.max(most, needIn(pour.busyFrom));
            }
        }
        return most;
    }

    public int firstShort() {
        sumNeeds();
        for (int hour = 0; hour < HOURS; hour++) {
            if (needs[hour] > yardPanels) {
                return hour;
            }
        }
        return NONE;
    }

    public int earliest(int from, int volume, int panels, int strength)
            throws IllegalArgumentException {
        requirePour(from, volume, panels, strength);
        sumNeeds();
        markFullHours(panels);
        int hours = startedHours(volume);
        for (int start = from; start <= LAST_START; start++) {
            int stand = standHour(start);
            int until = releaseHour(strikeHour(start + hours, strength));
            if (isHour(stand) && nextFull[stand] >= until) {
                return start;
            }
        }
        return NONE;
    }

    public int panelsOf(int pour) throws NoSuchElementException {
        Pour asked = existing(pour);
        giveOutPanels();
        return Long.bitCount(asked.given);
    }

    public int pourOf(int panel, int hour) throws IndexOutOfBoundsException {
        if (panel < 0 || panel >= yardPanels) {
            throw new IndexOutOfBoundsException();
        }
        requireHour(hour);
        giveOutPanels();
        long bit = 1L << panel;
        for (int number = 0; number < MOST_POURS; number++) {
            Pour pour = pourList[number];
            if (pour != null && (pour.given & bit) != 0 && pour.isBusy(hour)) {
                return number;
            }
        }
        return NONE;
    }

    // ---- what calls refuse

    private static boolean isHour(int hour) {
        return hour >= 0 && hour < HOURS;
    }

    private static boolean isNumber(int pour) {
        return pour >= 0 && pour < MOST_POURS;
    }

    private static void requireHour(int hour) {
        if (!isHour(hour)) {
            throw new IndexOutOfBoundsException();
        }
    }

    private static void require(boolean holds) {
        if (!holds) {
            throw new IllegalArgumentException();
        }
    }

    private static void requireRange(int value, int least, int most) {
        require(value >= least && value <= most);
    }

    private static void requirePour(int start, int volume, int panels, int strength) {
        requireRange(start, 0, LAST_START);
        requireRange(volume, 1, MOST_VOLUME);
        requireRange(panels, 1, MOST_PANELS_OF_POUR);
        requireRange(strength, 1, MOST_STRENGTH);
    }

    private Pour existing(int pour) {
        Pour found = isNumber(pour) ? pourList[pour] : null;
        if (found == null) {
            throw new NoSuchElementException();
        }
        return found;
    }

    private int freeNumber() {
        for (int number = 0; number < MOST_POURS; number++) {
            if (pourList[number] == null) {
                return number;
            }
        }
        return NONE;
    }

    // ---- maturity and strength

    private void sumGains() {
        gained[0] = 0;
        for (int hour = 0; hour < HOURS; hour++) {
            gained[hour + 1] = gained[hour] + Math.max(0, temperatures[hour] + 10);
        }
    }

    /** The hours need not lie before HOURS: those behind have no gain. */
    private int gainBetween(int from, int to) {
        int last = Math.min(to, HOURS);
        return from >= 0 && from < last ? gained[last] - gained[from] : 0;
    }

    private static int strengthAt(int maturity) {
        for (int i = 1; i < STEPS.length; i++) {
            int lower = STEPS[i - 1];
            int width = STEPS[i] - lower;
            if (maturity < STEPS[i] && width > 0) {
                return STRENGTH_OF_STEP * (i - 1) + STRENGTH_OF_STEP * (maturity - lower) / width;
            }
        }
        return MOST_STRENGTH;
    }

    // ---- when a pour ends and how long its panels are busy

    private int fullHours(int volume) {
        return rate > 0 ? volume / rate : 0;
    }

    private int startedHours(int volume) {
        return fullHours(volume + rate - 1);
    }

    private int standHour(int start) {
        return Math.max(0, start - setUpHours);
    }

    /** Maturity never falls with the hours, so leaps find the last hour that is too early. */
    private int strikeHour(int end, int wanted) {
        int tooEarly = end - 1;
        for (int leap = LONGEST_LEAP; leap > 0; leap /= 2) {
            int hour = tooEarly + leap;
            if (hour < HOURS && strengthAt(gainBetween(end, hour)) < wanted) {
                tooEarly = hour;
            }
        }
        int strike = tooEarly + 1;
        return strike < HOURS ? strike : NONE;
    }

    private int releaseHour(int strike) {
        return strike == NONE ? HOURS : Math.min(HOURS, strike + cleaningHours);
    }

    private void schedule(Pour pour) {
        pour.end = pour.start + startedHours(pour.volume) + pour.hoursOfBreaks();
        pour.strike = strikeHour(pour.end, pour.wanted);
        pour.busyFrom = standHour(pour.start);
        pour.busyUntil = releaseHour(pour.strike);
    }

    private void scheduleAll() {
        for (Pour pour : pourList) {
            if (pour != null) {
                schedule(pour);
            }
        }
    }

    // ---- how many panels are needed

    private int needIn(int hour) {
        int sum = 0;
        for (Pour pour : pourList) {
            if (pour != null && pour.isBusy(hour)) {
                sum += pour.panels;
            }
        }
        return sum;
    }

    private void sumNeeds() {
        for (int hour = 0; hour < HOURS; hour++) {
            needs[hour] = needIn(hour);
        }
    }

    private void markFullHours(int furtherPanels) {
        nextFull[HOURS] = HOURS;
        for (int hour = HOURS - 1; hour >= 0; hour--) {
            boolean full = needs[hour] + furtherPanels > yardPanels;
            nextFull[hour] = full ? hour : nextFull[hour + 1];
        }
    }

    // ---- which panel stands where

    private void giveOutPanels() {
        for (Pour pour : pourList) {
            if (pour != null) {
                pour.given = 0;
                pour.served = false;
            }
        }
        for (int turn = 0; turn < MOST_POURS; turn++) {
            Pour next = nextToServe();
            if (next == null) {
                return;
            }
            next.given = lowestPanels(panelsBusyIn(next.busyFrom), next.panels);
            next.served = true;
        }
    }

    private Pour nextToServe() {
        Pour next = null;
        for (Pour pour : pourList) {
            if (pour != null && !pour.served && (next == null || pour.busyFrom < next.busyFrom)) {
                next = pour;
            }
        }
        return next;
    }

    private long panelsBusyIn(int hour) {
        long busy = 0;
        for (Pour pour : pourList) {
            if (pour != null && pour.isBusy(hour)) {
                busy |= pour.given;
            }
        }
        return busy;
    }

    private long lowestPanels(long busy, int most) {
        long taken = 0;
        int count = 0;
        for (int panel = 0; panel < yardPanels && count < most; panel++) {
            long bit = 1L << panel;
            if ((busy & bit) == 0) {
                taken |= bit;
                count++;
            }
        }
        return taken;
    }
}
