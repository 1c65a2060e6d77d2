import java.util.ArrayList;
import java.util.Arrays;
import java.util.List;
import java.util.NoSuchElementException;

/** The document again, slow and plain: minutes are counted, and sets are tried one after the other. */
final class Model {
    private static final int[] LEAST = {0, 0, 0, 120, 0, 1, 1, 60, 0, 0, 0};
    private static final int[] MOST = {120, 120, 180, 900, 900, 8, 8, 20160, 10000, 1, 20000};

    private final int[][] zones = new int[5][];
    private final int[][] flights = new int[12][];
    private final int[] rules = {60, 30, 30, 300, 600, 4, 3, 4320, 200, 1, 6000};
    private final int[][] limits = new int[4][4];
    private final int[][] crews = new int[4][];
    private final int[][] offs = new int[4][];
    private final List<List<int[]>> bids = new ArrayList<>();
    private final List<Integer> chain = new ArrayList<>();
    private List<List<Integer>> listed;
    private List<Integer> taken;
    private int[] owners;
    private List<int[]> assignments;

    Model() {
        for (int k = 0; k < 5; k++) {
            zones[k] = new int[] {0, 20160, 0};
        }
        for (int[] row : limits) {
            Arrays.fill(row, 720);
        }
        for (int k = 0; k < 4; k++) {
            bids.add(new ArrayList<>());
        }
    }

    private static void argument(boolean holds) {
        if (!holds) {
            throw new IllegalArgumentException();
        }
    }

    private static void element(boolean holds) {
        if (!holds) {
            throw new NoSuchElementException();
        }
    }

    private static void state(boolean holds) {
        if (!holds) {
            throw new IllegalStateException();
        }
    }

    private void empty() {
        listed = null;
        taken = null;
        owners = null;
    }

    void zone(int station, int first, int change, int second) {
        argument(station >= 0 && station <= 4);
        argument(first >= -720 && first <= 720 && second >= -720 && second <= 720);
        argument(change >= 0 && change <= 20160);
        zones[station] = new int[] {first, change, second};
        empty();
    }

    void flight(int flight, int from, int to, long departs, long arrives, int type) {
        argument(flight >= 0 && flight <= 11 && from >= 0 && from <= 4 && to >= 0 && to <= 4 && from != to);
        argument(type >= 0 && type <= 2);
        argument(departs >= 0 && arrives > departs && arrives <= 20160 && arrives - departs <= 900);
        flights[flight] = new int[] {from, to, (int) departs, (int) arrives, type};
        empty();
    }

    boolean drop(int flight) {
        argument(flight >= 0 && flight <= 11);
        if (flights[flight] == null) {
            return false;
        }
        flights[flight] = null;
        empty();
        return true;
    }

    boolean move(int flight, int minutes) {
        argument(flight >= 0 && flight <= 11);
        int[] f = flights[flight];
        if (f == null || (long) f[2] + minutes < 0 || (long) f[3] + minutes > 20160) {
            return false;
        }
        f[2] += minutes;
        f[3] += minutes;
        empty();
        return true;
    }

    void rule(int n, int value) {
        argument(n >= 0 && n <= 10);
        argument(value >= LEAST[n] && value <= MOST[n]);
        rules[n] = value;
        empty();
    }

    void limit(int band, int legs, int minutes) {
        argument(band >= 0 && band <= 3 && legs >= 1 && legs <= 4 && minutes >= 60 && minutes <= 1440);
        limits[band][legs - 1] = minutes;
        empty();
    }

    void crew(int crew, int base, int rank, int types, int flown) {
        argument(crew >= 0 && crew <= 3 && base >= 0 && base <= 4 && rank >= 0 && rank <= 99);
        argument(types >= 0 && types <= 7 && flown >= 0 && flown <= 20000);
        crews[crew] = new int[] {base, rank, types, flown};
        offs[crew] = new int[] {0, 0};
        bids.get(crew).clear();
        empty();
    }

    void off(int crew, int from, int to) {
        argument(crew >= 0 && crew <= 3 && from >= 0 && from <= 20160 && to >= 0 && to <= 20160);
        element(crews[crew] != null);
        offs[crew] = new int[] {from, to};
        empty();
    }

    int clear() {
        int had = chain.size();
        chain.clear();
        return had;
    }

    int chain(int flight) {
        argument(flight >= 0 && flight <= 11);
        state(chain.size() < 8);
        chain.add(flight);
        return chain.size();
    }

    private boolean chainIsThere() {
        for (int flight : chain) {
            if (flights[flight] == null) {
                return false;
            }
        }
        return !chain.isEmpty();
    }

    int check(int crew) {
        argument(crew >= -1 && crew <= 3);
        element(crew == -1 || crews[crew] != null);
        element(chainIsThere());
        return broken(chain, crew);
    }

    int span(int what) {
        argument(what >= 0 && what <= 4);
        element(chainIsThere());
        List<List<Integer>> duties = duties(chain);
        switch (what) {
            case 0:
                return beginning(chain);
            case 1:
                return end(chain);
            case 2:
                return duties.size();
            case 3:
                return air(chain);
            default:
                int longest = Integer.MIN_VALUE;
                for (List<Integer> duty : duties) {
                    longest = Math.max(longest, end(duty) - beginning(duty));
                }
                return longest;
        }
    }

    private int beginning(List<Integer> row) {
        return flights[row.get(0)][2] - rules[0];
    }

    private int end(List<Integer> row) {
        return flights[row.get(row.size() - 1)][3] + rules[1];
    }

    private int air(List<Integer> row) {
        int sum = 0;
        for (int flight : row) {
            sum += flights[flight][3] - flights[flight][2];
        }
        return sum;
    }

    private List<List<Integer>> duties(List<Integer> row) {
        List<List<Integer>> all = new ArrayList<>();
        for (int k = 0; k < row.size(); k++) {
            if (k == 0 || flights[row.get(k)][2] - flights[row.get(k - 1)][3] >= rules[3]) {
                all.add(new ArrayList<>());
            }
            all.get(all.size() - 1).add(row.get(k));
        }
        return all;
    }

    private int localAt(int station, int minute) {
        int[] zone = zones[station];
        return minute >= zone[1] ? minute + zone[2] : minute + zone[0];
    }

    private static int ofDay(int local) {
        return ((local % 1440) + 1440) % 1440;
    }

    private int broken(List<Integer> row, int crew) {
        for (int n = 1; n <= (crew == -1 ? 9 : 12); n++) {
            if (breaks(row, crew, n)) {
                return n;
            }
        }
        return 0;
    }

    private boolean breaks(List<Integer> row, int crew, int n) {
        List<List<Integer>> duties = duties(row);
        int[] first = flights[row.get(0)];
        int[] last = flights[row.get(row.size() - 1)];
        switch (n) {
            case 1:
                return !isBase(first[0], crew);
            case 2:
                return breaksLinks(row);
            case 3:
                return duties.stream().anyMatch(duty -> duty.size() > rules[5]);
            case 4:
                return duties.stream().anyMatch(this::isTooLong);
            case 5:
                return breaksRests(duties);
            case 6:
                return rules[9] == 1 && breaksNights(duties);
            case 7:
                return duties.size() > rules[6];
            case 8:
                return last[1] != first[0];
            case 9:
                return end(row) - beginning(row) > rules[7];
            case 10:
                return row.stream().anyMatch(flight -> (crews[crew][2] >> flights[flight][4]) % 2 == 0);
            case 11:
                return isOff(row, crew);
            default:
                return air(row) + crews[crew][3] > rules[10];
        }
    }

    private boolean isBase(int station, int crew) {
        for (int k = 0; k < 4; k++) {
            if ((crew == -1 || crew == k) && crews[k] != null && crews[k][0] == station) {
                return true;
            }
        }
        return false;
    }

    private boolean breaksLinks(List<Integer> row) {
        for (int k = 1; k < row.size(); k++) {
            int[] before = flights[row.get(k - 1)];
            int[] next = flights[row.get(k)];
            if (before[1] != next[0] || next[2] < before[3] + rules[2]) {
                return true;
            }
        }
        return false;
    }

    private boolean isTooLong(List<Integer> duty) {
        int band = ofDay(localAt(flights[duty.get(0)][0], beginning(duty))) / 360;
        int legs = duty.size() > 4 ? 4 : duty.size();
        return end(duty) - beginning(duty) > limits[band][legs - 1];
    }

    private boolean breaksRests(List<List<Integer>> duties) {
        for (int k = 1; k < duties.size(); k++) {
            int rest = beginning(duties.get(k)) - end(duties.get(k - 1));
            int length = end(duties.get(k - 1)) - beginning(duties.get(k - 1));
            if (rest < rules[4] || rest < length) {
                return true;
            }
        }
        return false;
    }

    private boolean breaksNights(List<List<Integer>> duties) {
        for (int k = 1; k < duties.size(); k++) {
            List<Integer> before = duties.get(k - 1);
            int station = flights[before.get(before.size() - 1)][1];
            int row = 0;
            int longest = 0;
            for (int minute = end(before); minute < beginning(duties.get(k)); minute++) {
                int local = ofDay(localAt(station, minute));
                row = local < 360 || local >= 1320 ? row + 1 : 0;
                longest = Math.max(longest, row);
            }
            if (longest < 480) {
                return true;
            }
        }
        return false;
    }

    private boolean isOff(List<Integer> row, int crew) {
        for (int minute = offs[crew][0]; minute < offs[crew][1]; minute++) {
            if (minute >= beginning(row) && minute < end(row)) {
                return true;
            }
        }
        return false;
    }

    int pairings() {
        empty();
        List<List<Integer>> all = new ArrayList<>();
        goOn(new ArrayList<>(), all);
        if (all.size() > 40) {
            return -1;
        }
        listed = all;
        return all.size();
    }

    private void goOn(List<Integer> row, List<List<Integer>> all) {
        for (int flight = 0; flight < 12; flight++) {
            if (flights[flight] != null && row.size() < 8) {
                row.add(flight);
                if (!breaksLinks(row) && isBase(flights[row.get(0)][0], -1)) {
                    if (broken(row, -1) == 0) {
                        all.add(new ArrayList<>(row));
                    }
                    goOn(row, all);
                }
                row.remove(row.size() - 1);
            }
        }
    }

    int pairing(int i, int k) {
        element(listed != null && i >= 0 && i < listed.size());
        element(k >= 0 && k < listed.get(i).size());
        return listed.get(i).get(k);
    }

    int cover() {
        taken = null;
        owners = null;
        if (listed == null) {
            return -1;
        }
        if (listed.size() <= 12) {
            for (int set = 0; set < 1 << listed.size(); set++) {
                List<Integer> chosen = new ArrayList<>();
                for (int k = 0; k < listed.size(); k++) {
                    if ((set >> k & 1) == 1) {
                        chosen.add(k);
                    }
                }
                consider(chosen);
            }
        } else {
            tryAll(new ArrayList<>());
        }
        return taken == null ? -1 : cost(taken);
    }

    /** All covers without a pairing that works nothing new for the flight that was to be worked. */
    private void tryAll(List<Integer> chosen) {
        int[] times = times(chosen);
        for (int flight = 0; flight < 12; flight++) {
            if (flights[flight] != null && times[flight] == 0) {
                for (int k = 0; k < listed.size(); k++) {
                    if (listed.get(k).contains(flight)) {
                        chosen.add(k);
                        tryAll(chosen);
                        chosen.remove(chosen.size() - 1);
                    }
                }
                return;
            }
        }
        List<Integer> sorted = new ArrayList<>(chosen);
        sorted.sort(null);
        consider(sorted);
    }

    private int[] times(List<Integer> chosen) {
        int[] times = new int[12];
        for (int k : chosen) {
            for (int flight : listed.get(k)) {
                times[flight]++;
            }
        }
        return times;
    }

    private void consider(List<Integer> chosen) {
        int[] times = times(chosen);
        for (int flight = 0; flight < 12; flight++) {
            if (flights[flight] != null && times[flight] == 0) {
                return;
            }
        }
        if (taken == null || cost(chosen) < cost(taken) || cost(chosen) == cost(taken) && isBefore(chosen, taken)) {
            taken = chosen;
        }
    }

    private int cost(List<Integer> chosen) {
        int cost = 0;
        for (int k : chosen) {
            cost += end(listed.get(k)) - beginning(listed.get(k));
        }
        for (int count : times(chosen)) {
            cost += count > 1 ? (count - 1) * rules[8] : 0;
        }
        return cost;
    }

    /** Whether the least number by which two sets differ is in the first. */
    private static boolean isBefore(List<Integer> one, List<Integer> other) {
        for (int k = 0; k < 40; k++) {
            if (one.contains(k) != other.contains(k)) {
                return one.contains(k);
            }
        }
        return false;
    }

    boolean covers(int i) {
        element(listed != null && i >= 0 && i < listed.size());
        return taken != null && taken.contains(i);
    }

    int bid(int crew, int kind, int arg, int weight) {
        argument(crew >= 0 && crew <= 3 && kind >= 0 && kind <= 2);
        argument(arg >= 0 && arg < new int[] {12, 5, 14}[kind] && weight >= -1000 && weight <= 1000);
        element(crews[crew] != null);
        state(bids.get(crew).size() < 6);
        bids.get(crew).add(new int[] {kind, arg, weight});
        owners = null;
        return bids.get(crew).size();
    }

    boolean award() {
        state(taken != null);
        owners = null;
        assignments = new ArrayList<>();
        int[] given = new int[40];
        Arrays.fill(given, -1);
        assign(0, given);
        List<Integer> order = new ArrayList<>();
        for (int rank = 99; rank >= 0; rank--) {
            for (int crew = 0; crew < 4; crew++) {
                if (crews[crew] != null && crews[crew][1] == rank) {
                    order.add(crew);
                }
            }
        }
        for (int crew : order) {
            keepBest(crew);
        }
        if (assignments.isEmpty()) {
            return false;
        }
        owners = assignments.get(0);
        return true;
    }

    private void assign(int place, int[] given) {
        if (place == taken.size()) {
            assignments.add(given.clone());
            return;
        }
        for (int crew = 0; crew < 4; crew++) {
            if (crews[crew] != null) {
                given[taken.get(place)] = crew;
                if (mayHold(crew, setOf(crew, given))) {
                    assign(place + 1, given);
                }
                given[taken.get(place)] = -1;
            }
        }
    }

    private static List<Integer> setOf(int crew, int[] given) {
        List<Integer> set = new ArrayList<>();
        for (int k = 0; k < given.length; k++) {
            if (given[k] == crew) {
                set.add(k);
            }
        }
        return set;
    }

    private boolean mayHold(int crew, List<Integer> set) {
        int air = crews[crew][3];
        for (int one : set) {
            List<Integer> row = listed.get(one);
            air += air(row);
            if (broken(row, crew) != 0) {
                return false;
            }
            for (int other : set) {
                List<Integer> second = listed.get(other);
                if (one != other && beginning(second) >= beginning(row) && beginning(second) - end(row) < rules[4]) {
                    return false;
                }
            }
        }
        return set.isEmpty() || air <= rules[10];
    }

    private void keepBest(int crew) {
        List<Integer> best = null;
        for (int[] given : assignments) {
            List<Integer> set = setOf(crew, given);
            if (best == null || scoreOf(crew, set) > scoreOf(crew, best)
                    || scoreOf(crew, set) == scoreOf(crew, best) && isBefore(set, best)) {
                best = set;
            }
        }
        List<int[]> kept = new ArrayList<>();
        for (int[] given : assignments) {
            if (setOf(crew, given).equals(best)) {
                kept.add(given);
            }
        }
        assignments = kept;
    }

    private int scoreOf(int crew, List<Integer> set) {
        int sum = 0;
        for (int[] bid : bids.get(crew)) {
            boolean works = false;
            int arrivals = 0;
            boolean free = true;
            for (int k : set) {
                works |= listed.get(k).contains(bid[1]);
                for (int flight : listed.get(k)) {
                    arrivals += flights[flight][1] == bid[1] ? 1 : 0;
                }
                for (int minute = beginning(listed.get(k)); minute < end(listed.get(k)); minute++) {
                    free &= Math.floorDiv(minute, 1440) != bid[1];
                }
            }
            sum += bid[2] * (bid[0] == 0 ? works ? 1 : 0 : bid[0] == 1 ? arrivals : free ? 1 : 0);
        }
        return sum;
    }

    int owner(int i) {
        element(listed != null && i >= 0 && i < listed.size());
        return owners == null ? -1 : owners[i];
    }

    int score(int crew) {
        argument(crew >= 0 && crew <= 3);
        element(crews[crew] != null);
        return scoreOf(crew, owners == null ? new ArrayList<>() : setOf(crew, owners));
    }

    int local(int station, int minute) {
        argument(station >= 0 && station <= 4 && minute >= 0 && minute <= 20160);
        return localAt(station, minute);
    }

    int look(int what) {
        argument(what >= 0 && what <= 5);
        int count = 0;
        switch (what) {
            case 0:
                for (int[] flight : flights) {
                    count += flight == null ? 0 : 1;
                }
                return count;
            case 1:
                for (int[] crew : crews) {
                    count += crew == null ? 0 : 1;
                }
                return count;
            case 2:
                return chain.size();
            case 3:
                return listed == null ? -1 : listed.size();
            case 4:
                return taken == null ? -1 : taken.size();
            default:
                return owners == null ? 0 : taken.size();
        }
    }
}
