import java.util.ArrayList;
import java.util.HashMap;
import java.util.List;
import java.util.Map;
import java.util.TreeMap;
import java.util.TreeSet;

/** The document's words put as plainly as can be, to compare the class with. */
final class Model {
    private record Way(int seconds, long cost) { }

    private final List<Long> kilograms = new ArrayList<>();
    private final List<Integer> binSeconds = new ArrayList<>();
    private final Map<List<Integer>, Way> ways = new HashMap<>();
    private final Map<List<Integer>, Boolean> pairs = new HashMap<>();
    private long load;
    private int seconds;
    private int vehicles;
    private Found found = new Found();

    /** What one run found. */
    private static final class Found {
        boolean wasRun;
        int bins;
        long load;
        int vehicles;
        /** By 10 * the sum of a set and its last bin: whether a round ends so. */
        final TreeMap<Integer, Boolean> labels = new TreeMap<>();
        final TreeMap<Integer, List<Integer>> rounds = new TreeMap<>();
        final Map<Integer, Long> costs = new HashMap<>();
        final TreeSet<Integer> barred = new TreeSet<>();
        final List<Integer> sets = new ArrayList<>();
        final Map<Integer, Fraction> duals = new HashMap<>();
        final Map<Integer, Fraction> uses = new HashMap<>();
        Fraction bound;
    }

    int bin(long itsKilograms, int itsSeconds) {
        if (kilograms.size() == 6 || itsKilograms < 0 || itsKilograms > 1000
                || itsSeconds < 0 || itsSeconds > 1000) {
            return -1;
        }
        kilograms.add(itsKilograms);
        binSeconds.add(itsSeconds);
        return kilograms.size() - 1;
    }

    boolean way(int a, int b, int itsSeconds, long cost) {
        int last = kilograms.size();
        if (a < 0 || b < 0 || a > last || b > last || a == b || itsSeconds < 0
                || itsSeconds > 1000 || cost < 0 || cost > 2000) {
            return false;
        }
        ways.put(List.of(a, b), new Way(itsSeconds, cost));
        return true;
    }

    boolean vehicle(long itsLoad, int itsSeconds, int n) {
        if (itsLoad < 0 || itsLoad > 6000 || itsSeconds < 0 || itsSeconds > 20000
                || n < 0 || n > 6) {
            return false;
        }
        load = itsLoad;
        seconds = itsSeconds;
        vehicles = n;
        return true;
    }

    boolean branch(int a, int b, boolean together) {
        int count = kilograms.size();
        if (a < 0 || b < 0 || a >= count || b >= count || a == b) {
            return false;
        }
        pairs.put(List.of(Math.min(a, b), Math.max(a, b)), together);
        return true;
    }

    void clear() {
        pairs.clear();
    }

    int run(int steps) {
        Found next = new Found();
        next.wasRun = true;
        next.bins = kilograms.size();
        next.load = load;
        next.vehicles = vehicles;
        lookAtRows(next, new ArrayList<>());
        if (next.labels.size() > steps) {
            throw new IllegalStateException();
        }
        for (int set : next.rounds.keySet()) {
            next.sets.add(set);
            if (isBarred(set)) {
                next.barred.add(set);
            }
        }
        next.bound = leastCost(next, (1 << next.bins) - 1, -1, null);
        found = next;
        return next.bound == null ? 1 : 0;
    }

    /** Every order of every bins, and those that are rows are kept. */
    private void lookAtRows(Found next, List<Integer> row) {
        if (!row.isEmpty() && isRow(row)) {
            int set = sum(row);
            int label = 10 * set + row.get(row.size() - 1);
            long cost = costOfRound(row);
            next.labels.merge(label, cost >= 0, Boolean::logicalOr);
            if (cost >= 0 && (!next.rounds.containsKey(set) || cost < next.costs.get(set)
                    || cost == next.costs.get(set) && isBefore(row, next.rounds.get(set)))) {
                next.rounds.put(set, List.copyOf(row));
                next.costs.put(set, cost);
            }
        }
        // From the last bin down, so that ties are broken by isBefore and not by this order.
        for (int bin = kilograms.size() - 1; bin >= 0; bin--) {
            if (!row.contains(bin)) {
                row.add(bin);
                lookAtRows(next, row);
                row.remove(row.size() - 1);
            }
        }
    }

    private static boolean isBefore(List<Integer> row, List<Integer> other) {
        for (int i = 0; i < row.size(); i++) {
            if (!row.get(i).equals(other.get(i))) {
                return row.get(i) < other.get(i);
            }
        }
        return false;
    }

    private static int sum(List<Integer> row) {
        int sum = 0;
        for (int bin : row) {
            sum += 1 << bin;
        }
        return sum;
    }

    private boolean isRow(List<Integer> row) {
        long weight = 0;
        int spent = 0;
        int place = 0;
        for (int bin : row) {
            Way way = ways.get(List.of(place, bin + 1));
            if (way == null) {
                return false;
            }
            spent += way.seconds + binSeconds.get(bin);
            weight += kilograms.get(bin);
            place = bin + 1;
        }
        return weight <= load && spent <= seconds;
    }

    /** -1 when it is no round. */
    private long costOfRound(List<Integer> row) {
        if (!isRow(row)) {
            return -1;
        }
        List<Integer> places = new ArrayList<>();
        places.add(0);
        int spent = 0;
        for (int bin : row) {
            places.add(bin + 1);
            spent += binSeconds.get(bin);
        }
        places.add(0);
        long cost = 0;
        for (int i = 1; i < places.size(); i++) {
            Way way = ways.get(List.of(places.get(i - 1), places.get(i)));
            if (way == null) {
                return -1;
            }
            spent += way.seconds;
            cost += way.cost;
        }
        return spent <= seconds ? cost : -1;
    }

    private boolean isBarred(int set) {
        for (Map.Entry<List<Integer>, Boolean> pair : pairs.entrySet()) {
            boolean hasOne = (set & 1 << pair.getKey().get(0)) != 0;
            boolean hasOther = (set & 1 << pair.getKey().get(1)) != 0;
            if (pair.getValue() ? hasOne != hasOther : hasOne && hasOther) {
                return true;
            }
        }
        return false;
    }

    /**
     * The least cost of mixtures for the bins served; or, with a favoured set and a cost, less
     * the greatest number that a mixture of just that cost gives to that set.
     */
    private static Fraction leastCost(Found from, int served, int favoured, Fraction atCost) {
        List<Integer> open = new ArrayList<>();
        for (int set : from.sets) {
            if (!from.barred.contains(set) && (set & ~served) == 0) {
                open.add(set);
            }
        }
        List<Fraction[]> rows = new ArrayList<>();
        List<Fraction> right = new ArrayList<>();
        for (int bin = 0; bin < from.bins; bin++) {
            if ((served & 1 << bin) != 0) {
                Fraction[] row = zeros(open.size() + 1);
                for (int j = 0; j < open.size(); j++) {
                    row[j] = Fraction.of(open.get(j) >> bin & 1);
                }
                rows.add(row);
                right.add(Fraction.ONE);
            }
        }
        Fraction[] all = zeros(open.size() + 1);
        java.util.Arrays.fill(all, Fraction.ONE);
        rows.add(all);
        right.add(Fraction.of(from.vehicles));
        Fraction[] costs = zeros(open.size() + 1);
        Fraction[] gains = zeros(open.size() + 1);
        for (int j = 0; j < open.size(); j++) {
            costs[j] = Fraction.of(from.costs.get(open.get(j)));
            gains[j] = Fraction.of(open.get(j) == favoured ? -1 : 0);
        }
        if (atCost != null) {
            rows.add(costs);
            right.add(atCost);
        }
        return new LinearProgram(rows.toArray(new Fraction[0][]),
                right.toArray(new Fraction[0]), atCost == null ? costs : gains).least();
    }

    private static Fraction[] zeros(int length) {
        Fraction[] row = new Fraction[length];
        java.util.Arrays.fill(row, Fraction.ZERO);
        return row;
    }

    int steps() {
        return found.labels.size();
    }

    int columns() {
        return found.sets.size();
    }

    private boolean isColumn(int k) {
        return k >= 0 && k < found.sets.size();
    }

    int column(int k, int i) {
        if (!isColumn(k)) {
            return -1;
        }
        List<Integer> round = found.rounds.get(found.sets.get(k));
        return i >= 0 && i < round.size() ? round.get(i) : -1;
    }

    private static long part(Fraction fraction, int part) {
        if (fraction == null || part != 0 && part != 1) {
            return 0;
        }
        return (part == 0 ? fraction.top : fraction.bottom).longValueExact();
    }

    long bound(int part) {
        return part(found.bound, part);
    }

    long dual(int bin, int part) {
        if (found.bound == null || bin < 0 || bin >= found.bins) {
            return 0;
        }
        if (!found.duals.containsKey(bin)) {
            Fraction without = leastCost(found, (1 << found.bins) - 1 - (1 << bin), -1, null);
            found.duals.put(bin, without == null ? null : found.bound.minus(without));
        }
        return part(found.duals.get(bin), part);
    }

    long used(int k, int part) {
        if (found.bound == null || !isColumn(k) || found.barred.contains(found.sets.get(k))) {
            return 0;
        }
        if (!found.uses.containsKey(k)) {
            int all = (1 << found.bins) - 1;
            Fraction least = leastCost(found, all, found.sets.get(k), found.bound);
            found.uses.put(k, least.negative());
        }
        return part(found.uses.get(k), part);
    }

    private long weight(int set) {
        long weight = 0;
        for (int bin = 0; bin < kilograms.size(); bin++) {
            weight += (set & 1 << bin) != 0 ? kilograms.get(bin) : 0;
        }
        return weight;
    }

    long share(int column, int part) {
        if (!isColumn(column) || found.load == 0) {
            return 0;
        }
        return part(Fraction.of(weight(found.sets.get(column)), found.load), part);
    }

    boolean dropped(int label) {
        return label >= 0 && label < found.labels.size()
                && !new ArrayList<>(found.labels.values()).get(label);
    }

    private List<Integer> cutSets() {
        List<Integer> sets = new ArrayList<>();
        for (int set = 0; set < 1 << found.bins; set++) {
            if (found.load > 0 && weight(set) > found.load) {
                sets.add(set);
            }
        }
        return sets;
    }

    int cuts() {
        return cutSets().size();
    }

    int cut(int k, int i) {
        List<Integer> sets = cutSets();
        if (k < 0 || k >= sets.size()) {
            return -1;
        }
        List<Integer> bins = new ArrayList<>();
        for (int bin = 0; bin < found.bins; bin++) {
            if ((sets.get(k) & 1 << bin) != 0) {
                bins.add(bin);
            }
        }
        return i >= 0 && i < bins.size() ? bins.get(i) : -1;
    }

    int check() {
        for (int k = 0; k < found.sets.size(); k++) {
            int set = found.sets.get(k);
            if (costOfRound(found.rounds.get(set)) != found.costs.get(set)) {
                return 1 + k;
            }
        }
        return 0;
    }

    boolean labelsClosed() {
        for (int set : found.sets) {
            for (int subset = 1; subset < 64; subset++) {
                if ((subset & set) == subset && !found.sets.contains(subset)) {
                    return false;
                }
            }
        }
        return found.wasRun;
    }
}
