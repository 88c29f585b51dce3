import java.util.ArrayList;
import java.util.Arrays;
import java.util.Comparator;
import java.util.List;
import java.util.NoSuchElementException;

/** The document once more, in the words of its terms and hour by hour, with nothing kept ready. */
final class NaiveYard {
    private final int[] temperatures = new int[1000];
    private final List<NaivePour> list = new ArrayList<>();
    private int panelCount = 20;
    private int trucks = 10;
    private int pump = 12;
    private int setUp = 2;
    private int cleaning = 3;

    private static final class NaivePour {
        int number;
        int start;
        int volume;
        int panels;
        int strength;
        final List<int[]> breaks = new ArrayList<>();
    }

    NaiveYard() {
        Arrays.fill(temperatures, 20);
    }

    void setTemperature(int from, int to, int temperature) {
        index(from >= 0 && from <= 999 && to >= 0 && to <= 999);
        argument(to >= from && temperature >= -40 && temperature <= 50);
        Arrays.fill(temperatures, from, to + 1, temperature);
    }

    int temperature(int hour) {
        index(hour >= 0 && hour <= 999);
        return temperatures[hour];
    }

    int maturity(int from, int to) {
        index(from >= 0 && from <= 999 && to >= 0 && to <= 999);
        return sumOfGains(from, to);
    }

    int strength(int maturity) {
        argument(maturity >= 0 && maturity <= 1000000);
        return strengthAt(maturity);
    }

    int setPanels(int panels) {
        argument(panels >= 0 && panels <= 60);
        int before = panelCount;
        panelCount = panels;
        return before;
    }

    int setRates(int newTrucks, int newPump) {
        argument(newTrucks >= 1 && newTrucks <= 50 && newPump >= 1 && newPump <= 50);
        trucks = newTrucks;
        pump = newPump;
        return rate();
    }

    void setCrew(int newSetUp, int newCleaning) {
        argument(newSetUp >= 0 && newSetUp <= 24 && newCleaning >= 0 && newCleaning <= 24);
        setUp = newSetUp;
        cleaning = newCleaning;
    }

    int plan(int start, int volume, int panels, int strength) {
        NaivePour pour = pourOf(start, volume, panels, strength);
        if (list.size() == 10) {
            throw new IllegalStateException();
        }
        while (has(pour.number)) {
            pour.number++;
        }
        list.add(pour);
        return pour.number;
    }

    int move(int number, int start) {
        NaivePour pour = get(number);
        argument(start >= 0 && start <= 900);
        int before = pour.start;
        pour.start = start;
        return before;
    }

    int cancel(int number) {
        NaivePour pour = get(number);
        list.remove(pour);
        return pour.panels;
    }

    int delay(int number, int part, int hours) {
        NaivePour pour = get(number);
        argument(part >= 0 && part <= pour.volume - 1 && hours >= 1 && hours <= 9);
        if (pour.breaks.size() == 4) {
            throw new IllegalStateException();
        }
        pour.breaks.add(new int[] {part, hours});
        return pour.breaks.size();
    }

    int pours() {
        return list.size();
    }

    int endOf(int number) {
        return end(get(number));
    }

    int coldJoints(int number) {
        NaivePour pour = get(number);
        List<int[]> ordered = new ArrayList<>(pour.breaks);
        ordered.sort(Comparator.comparingInt(one -> one[0]));
        int count = 0;
        int ahead = 0;
        for (int[] one : ordered) {
            int begin = pour.start + one[0] / rate() + ahead;
            if (sumOfGains(begin, begin + one[1]) >= 90) {
                count++;
            }
            ahead += one[1];
        }
        return count;
    }

    int struck(int number) {
        return struck(get(number));
    }

    int freeFrom(int number) {
        NaivePour pour = get(number);
        for (int hour = 999; hour >= 0; hour--) {
            if (busy(pour, hour)) {
                return hour == 999 ? -1 : hour + 1;
            }
        }
        throw new AssertionError("never busy");
    }

    int need(int hour) {
        index(hour >= 0 && hour <= 999);
        return list.stream().filter(pour -> busy(pour, hour)).mapToInt(pour -> pour.panels).sum();
    }

    int peak() {
        return Arrays.stream(needs()).max().getAsInt();
    }

    int peakByOverlaps() {
        return peak();
    }

    int firstShort() {
        int[] needs = needs();
        for (int hour = 0; hour < 1000; hour++) {
            if (needs[hour] > panelCount) {
                return hour;
            }
        }
        return -1;
    }

    int earliest(int from, int volume, int panels, int strength) {
        NaivePour pour = pourOf(from, volume, panels, strength);
        int[] needs = needs();
        while (pour.start <= 900) {
            boolean enough = true;
            boolean[] busy = busyHours(pour);
            for (int hour = 0; hour < 1000; hour++) {
                enough &= !busy[hour] || needs[hour] + panels <= panelCount;
            }
            if (enough) {
                return pour.start;
            }
            pour.start++;
        }
        return -1;
    }

    int panelsOf(int number) {
        NaivePour pour = get(number);
        return (int) shares().stream().filter(share -> share.pour == pour).count();
    }

    int pourOf(int panel, int hour) {
        index(panel >= 0 && panel < panelCount && hour >= 0 && hour <= 999);
        for (Share share : shares()) {
            if (share.panel == panel && share.hours[hour]) {
                return share.pour.number;
            }
        }
        return -1;
    }

    // ---- the terms

    private static final class Share {
        final NaivePour pour;
        final int panel;
        final boolean[] hours;

        Share(NaivePour pour, int panel, boolean[] hours) {
            this.pour = pour;
            this.panel = panel;
            this.hours = hours;
        }
    }

    private List<Share> shares() {
        List<NaivePour> order = new ArrayList<>(list);
        order.sort(Comparator.<NaivePour>comparingInt(pour -> stand(pour))
                .thenComparingInt(pour -> pour.number));
        List<Share> shares = new ArrayList<>();
        for (NaivePour pour : order) {
            int stand = stand(pour);
            boolean[] hours = busyHours(pour);
            int left = pour.panels;
            for (int panel = 0; panel < panelCount && left > 0; panel++) {
                int wanted = panel;
                if (shares.stream().noneMatch(s -> s.panel == wanted && s.hours[stand])) {
                    shares.add(new Share(pour, panel, hours));
                    left--;
                }
            }
        }
        return shares;
    }

    private int[] needs() {
        int[] needs = new int[1000];
        for (NaivePour pour : list) {
            boolean[] busy = busyHours(pour);
            for (int hour = 0; hour < 1000; hour++) {
                needs[hour] += busy[hour] ? pour.panels : 0;
            }
        }
        return needs;
    }

    private boolean[] busyHours(NaivePour pour) {
        int stand = stand(pour);
        int struck = struck(pour);
        boolean[] busy = new boolean[1000];
        for (int hour = stand; hour < 1000; hour++) {
            busy[hour] = struck == -1 || hour < struck || hour < struck + cleaning;
        }
        return busy;
    }

    private boolean busy(NaivePour pour, int hour) {
        return busyHours(pour)[hour];
    }

    private int stand(NaivePour pour) {
        return pour.start < setUp ? 0 : pour.start - setUp;
    }

    private int end(NaivePour pour) {
        int end = pour.start;
        for (int poured = 0; poured < pour.volume; poured += rate()) {
            end++;
        }
        for (int[] one : pour.breaks) {
            end += one[1];
        }
        return end;
    }

    private int struck(NaivePour pour) {
        int maturity = 0;
        for (int hour = end(pour); hour <= 999; hour++) {
            if (strengthAt(maturity) >= pour.strength) {
                return hour;
            }
            maturity += gain(hour);
        }
        return -1;
    }

    private int rate() {
        return trucks < pump ? trucks : pump;
    }

    private int gain(int hour) {
        return hour > 999 || temperatures[hour] < -10 ? 0 : temperatures[hour] + 10;
    }

    private int sumOfGains(int from, int to) {
        int sum = 0;
        for (int hour = from; hour < to; hour++) {
            sum += gain(hour);
        }
        return sum;
    }

    private static int strengthAt(int maturity) {
        if (maturity >= 5000) {
            return 100;
        }
        if (maturity >= 2500) {
            return 75 + 25 * (maturity - 2500) / 2500;
        }
        if (maturity >= 1200) {
            return 50 + 25 * (maturity - 1200) / 1300;
        }
        if (maturity >= 500) {
            return 25 + 25 * (maturity - 500) / 700;
        }
        return 25 * maturity / 500;
    }

    private static NaivePour pourOf(int start, int volume, int panels, int strength) {
        argument(start >= 0 && start <= 900 && volume >= 1 && volume <= 200);
        argument(panels >= 1 && panels <= 30 && strength >= 1 && strength <= 100);
        NaivePour pour = new NaivePour();
        pour.start = start;
        pour.volume = volume;
        pour.panels = panels;
        pour.strength = strength;
        return pour;
    }

    private boolean has(int number) {
        return list.stream().anyMatch(pour -> pour.number == number);
    }

    private NaivePour get(int number) {
        for (NaivePour pour : list) {
            if (pour.number == number) {
                return pour;
            }
        }
        throw new NoSuchElementException();
    }

    private static void index(boolean good) {
        if (!good) {
            throw new IndexOutOfBoundsException();
        }
    }

    private static void argument(boolean good) {
        if (!good) {
            throw new IllegalArgumentException();
        }
    }
}
