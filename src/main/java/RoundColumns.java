import java.util.Arrays;

/** Rounds of vehicles as columns, and the exact least cost of mixtures of them. */
public final class RoundColumns {
    public static final int NONE = -1;

    private static final int MOST_BINS = 6;
    private static final int MOST_PLACES = 1 + MOST_BINS;
    private static final int SETS = 1 << MOST_BINS;
    private static final int MOST_COLUMNS = SETS - 1;
    private static final int DEPOT = 0;

    private static final long MOST_KILOGRAMS = 1000;
    private static final int MOST_BIN_SECONDS = 1000;
    private static final int MOST_WAY_SECONDS = 1000;
    private static final long MOST_WAY_COST = 2000;
    private static final long MOST_LOAD = 6000;
    private static final int MOST_VEHICLE_SECONDS = 20000;
    private static final int MOST_VEHICLES = 6;

    private final Town town;
    private final Mixtures mixtures;
    private final FractionRow askedShare;
    private Rounds found;
    private Rounds spare;
    private boolean wasRun;

    public RoundColumns() {
        town = new Town();
        mixtures = new Mixtures();
        askedShare = new FractionRow(1);
        found = new Rounds(town);
        spare = new Rounds(town);
        wasRun = false;
    }

    public int bin(long kilograms, int seconds) {
        if (town.bins >= MOST_BINS
                || !isWithin(kilograms, MOST_KILOGRAMS)
                || !isWithin(seconds, MOST_BIN_SECONDS)) {
            return NONE;
        }
        return town.addBin(kilograms, seconds);
    }

    public boolean way(int a, int b, int seconds, long cost) {
        if (!isWithin(a, town.bins) || !isWithin(b, town.bins) || a == b
                || !isWithin(seconds, MOST_WAY_SECONDS)
                || !isWithin(cost, MOST_WAY_COST)) {
            return false;
        }
        town.waySeconds[a][b] = seconds;
        town.wayCost[a][b] = cost;
        return true;
    }

    public boolean vehicle(long load, int seconds, int n) {
        if (!isWithin(load, MOST_LOAD)
                || !isWithin(seconds, MOST_VEHICLE_SECONDS)
                || !isWithin(n, MOST_VEHICLES)) {
            return false;
        }
        town.load = load;
        town.seconds = seconds;
        town.vehicles = n;
        return true;
    }

    public boolean branch(int a, int b, boolean together) {
        if (!isIndex(a, town.bins) || !isIndex(b, town.bins) || a == b) {
            return false;
        }
        town.tellPair(a, b, together);
        return true;
    }

    public void clear() {
        town.forgetPairs();
    }

    public int run(int steps) throws IllegalStateException {
        spare.search();
        if (spare.labelCount > steps) {
            throw new IllegalStateException("more labels than steps");
        }
        // The rounds told so far stay whole until here, so that a throw changes nothing.
        Rounds old = found;
        found = spare;
        spare = old;
        wasRun = true;
        return mixtures.solve(found) ? 0 : 1;
    }

    public int steps() {
        return found.labelCount;
    }

    public int columns() {
        return found.columnCount;
    }

    public int column(int k, int i) {
        return isIndex(k, found.columnCount) ? found.binOfRound(k, i) : NONE;
    }

    public long bound(int part) {
        return mixtures.bound.tell(0, part);
    }

    public long dual(int bin, int part) {
        return isIndex(bin, found.bins) ? mixtures.tellDual(found, bin, part) : 0;
    }

    public long used(int k, int part) {
        return isIndex(k, found.columnCount) ? mixtures.tellUsed(k, part) : 0;
    }

    public long share(int column, int part) {
        if (!isIndex(column, found.columnCount)) {
            return 0;
        }
        askedShare.put(0, found.kilograms[found.columnSets[column]], found.load);
        return askedShare.tell(0, part);
    }

    public boolean dropped(int label) {
        return isIndex(label, found.labelCount) && found.leadsNowhere(label);
    }

    public int cuts() {
        return found.countCuts();
    }

    public int cut(int k, int i) {
        return nthBin(found.cutSet(k), i);
    }

    public int check() {
        for (int k = 0; k < found.columnCount; k++) {
            int set = found.columnSets[k];
            int length = Integer.bitCount(set);
            if (town.costOfRound(found.order, set * MOST_BINS, length) != found.cost[set]) {
                return 1 + k;
            }
        }
        return 0;
    }

    public boolean labelsClosed() {
        return wasRun && found.areSubsetsColumns();
    }

    private static boolean isWithin(long number, long most) {
        return number >= 0 && number <= most;
    }

    private static boolean isIndex(int number, int count) {
        return number >= 0 && number < count;
    }

    private static boolean isIn(int set, int bin) {
        return (set >> bin & 1) != 0;
    }

    private static int nthBin(int set, int n) {
        int before = 0;
        for (int bin = 0; bin < MOST_BINS; bin++) {
            if (isIn(set, bin)) {
                if (before == n) {
                    return bin;
                }
                before++;
            }
        }
        return NONE;
    }

    /** What was told, as it is now. */
    private static final class Town {
        static final int NO_WAY = -1;
        static final long NO_ROUND = -1;

        int bins;
        long load;
        int seconds;
        int vehicles;
        final long[] kilograms = new long[MOST_BINS];
        final int[] binSeconds = new int[MOST_BINS];
        final int[][] waySeconds = new int[MOST_PLACES][MOST_PLACES];
        final long[][] wayCost = new long[MOST_PLACES][MOST_PLACES];
        // For each bin, the sets of those that it goes together with, and apart from.
        final int[] together = new int[MOST_BINS];
        final int[] apart = new int[MOST_BINS];

        Town() {
            for (int place = 0; place < MOST_PLACES; place++) {
                Arrays.fill(waySeconds[place], NO_WAY);
            }
        }

        int addBin(long itsKilograms, int itsSeconds) {
            int bin = bins;
            kilograms[bin] = itsKilograms;
            binSeconds[bin] = itsSeconds;
            bins = bin + 1;
            return bin;
        }

        void tellPair(int a, int b, boolean areTogether) {
            int bitA = 1 << a;
            int bitB = 1 << b;
            together[a] &= ~bitB;
            together[b] &= ~bitA;
            apart[a] &= ~bitB;
            apart[b] &= ~bitA;
            int[] partners = areTogether ? together : apart;
            partners[a] |= bitB;
            partners[b] |= bitA;
        }

        void forgetPairs() {
            Arrays.fill(together, 0);
            Arrays.fill(apart, 0);
        }

        boolean isBarred(int set) {
            for (int bin = 0; bin < bins; bin++) {
                if (isIn(set, bin)
                        && ((together[bin] & ~set) != 0 || (apart[bin] & set) != 0)) {
                    return true;
                }
            }
            return false;
        }

        boolean hasWay(int from, int to) {
            return waySeconds[from][to] != NO_WAY;
        }

        long costOfRound(int[] order, int start, int length) {
            int place = DEPOT;
            int spent = 0;
            long loaded = 0;
            long cost = 0;
            for (int i = 0; i <= length; i++) {
                int next = i < length ? 1 + order[start + i] : DEPOT;
                if (!hasWay(place, next)) {
                    return NO_ROUND;
                }
                spent += waySeconds[place][next];
                cost += wayCost[place][next];
                if (next != DEPOT) {
                    spent += binSeconds[next - 1];
                    loaded += kilograms[next - 1];
                }
                place = next;
            }
            return loaded > load || spent > seconds ? NO_ROUND : cost;
        }
    }

    /** The labels and columns that one search found, with what they were found from. */
    private static final class Rounds {
        final Town town;
        int bins;
        long load;
        int vehicles;
        int labelCount;
        int columnCount;
        final int[] columnSets = new int[MOST_COLUMNS];
        // By sets of bins; the ends are sets of last bins.
        final long[] kilograms = new long[SETS];
        final int[] rowEnds = new int[SETS];
        final int[] roundEnds = new int[SETS];
        final boolean[] barred = new boolean[SETS];
        final long[] cost = new long[SETS];
        // The round of each set that is a column, MOST_BINS places for each.
        final int[] order = new int[SETS * MOST_BINS];
        private final int[] row = new int[MOST_BINS];

        Rounds(Town town) {
            this.town = town;
        }

        void search() {
            bins = town.bins;
            load = town.load;
            vehicles = town.vehicles;
            Arrays.fill(rowEnds, 0);
            Arrays.fill(roundEnds, 0);
            weighSets();
            extend(0, 0, 0, 0);
            countLabels();
            listColumns();
        }

        private int setCount() {
            return 1 << bins;
        }

        private void weighSets() {
            for (int set = 0; set < setCount(); set++) {
                long sum = 0;
                for (int bin = 0; bin < bins; bin++) {
                    sum += isIn(set, bin) ? town.kilograms[bin] : 0;
                }
                kilograms[set] = sum;
                barred[set] = town.isBarred(set);
            }
        }

        // Bins are tried by their numbers, so that of rounds of one set the first comes first.
        private void extend(int length, int set, int spent, long paid) {
            if (length >= bins) {
                return;
            }
            for (int bin = 0; bin < bins; bin++) {
                if (!isIn(set, bin)) {
                    append(bin, length, set, spent, paid);
                }
            }
        }

        private void append(int bin, int length, int before, int spent, long paid) {
            int from = length == 0 ? DEPOT : 1 + row[length - 1];
            int to = 1 + bin;
            int set = before | 1 << bin;
            if (!town.hasWay(from, to) || kilograms[set] > load) {
                return;
            }
            int spentNow = spent + town.waySeconds[from][to] + town.binSeconds[bin];
            if (spentNow > town.seconds) {
                return;
            }
            long paidNow = paid + town.wayCost[from][to];
            row[length] = bin;
            rowEnds[set] |= 1 << bin;
            goHome(set, bin, spentNow, paidNow);
            extend(length + 1, set, spentNow, paidNow);
        }

        private void goHome(int set, int last, int spent, long paid) {
            int from = 1 + last;
            if (!town.hasWay(from, DEPOT)
                    || spent + town.waySeconds[from][DEPOT] > town.seconds) {
                return;
            }
            long whole = paid + town.wayCost[from][DEPOT];
            if (roundEnds[set] == 0 || whole < cost[set]) {
                cost[set] = whole;
                System.arraycopy(row, 0, order, set * MOST_BINS, Integer.bitCount(set));
            }
            roundEnds[set] |= 1 << last;
        }

        private void countLabels() {
            labelCount = 0;
            for (int set = 1; set < setCount(); set++) {
                labelCount += Integer.bitCount(rowEnds[set]);
            }
        }

        private void listColumns() {
            columnCount = 0;
            for (int set = 1; set < setCount(); set++) {
                if (isColumn(set)) {
                    columnSets[columnCount] = set;
                    columnCount++;
                }
            }
        }

        private boolean isColumn(int set) {
            return roundEnds[set] != 0;
        }

        int binOfRound(int k, int i) {
            int set = columnSets[k];
            return isIndex(i, Integer.bitCount(set)) ? order[set * MOST_BINS + i] : NONE;
        }

        boolean leadsNowhere(int label) {
            int left = label;
            for (int set = 1; set < setCount(); set++) {
                int labelsOfSet = Integer.bitCount(rowEnds[set]);
                if (left < labelsOfSet) {
                    return !isIn(roundEnds[set], nthBin(rowEnds[set], left));
                }
                left -= labelsOfSet;
            }
            return false;
        }

        private boolean isCut(int set) {
            return load > 0 && kilograms[set] > load;
        }

        int countCuts() {
            int count = 0;
            for (int set = 1; set < setCount(); set++) {
                count += isCut(set) ? 1 : 0;
            }
            return count;
        }

        /** The k-th set that is a cut; the empty one when there is none such. */
        int cutSet(int k) {
            int before = 0;
            for (int set = 1; set < setCount(); set++) {
                if (isCut(set)) {
                    if (before == k) {
                        return set;
                    }
                    before++;
                }
            }
            return 0;
        }

        boolean areSubsetsColumns() {
            for (int k = 0; k < columnCount; k++) {
                int set = columnSets[k];
                for (int subset = 1; subset < set; subset++) {
                    if ((subset & ~set) == 0 && !isColumn(subset)) {
                        return false;
                    }
                }
            }
            return true;
        }
    }

    /** The bound, and what is asked of it later: that is reckoned when first asked for. */
    private static final class Mixtures {
        boolean isAny;
        final FractionRow bound = new FractionRow(1);
        private final FractionRow duals = new FractionRow(MOST_BINS);
        private final FractionRow uses = new FractionRow(MOST_COLUMNS);
        private final Tableau best = new Tableau();
        private final Tableau trial = new Tableau();

        boolean solve(Rounds rounds) {
            bound.forget();
            duals.forget();
            uses.forget();
            best.lay(rounds, (1 << rounds.bins) - 1);
            best.minimise();
            isAny = best.isAllServed();
            if (isAny) {
                bound.put(0, best.costTop(), best.costBottom());
            }
            return isAny;
        }

        long tellDual(Rounds rounds, int bin, int part) {
            if (isAny && !duals.isKnown(bin)) {
                findDual(rounds, bin);
            }
            return duals.tell(bin, part);
        }

        private void findDual(Rounds rounds, int bin) {
            int others = ((1 << rounds.bins) - 1) & ~(1 << bin);
            trial.lay(rounds, others);
            trial.minimise();
            if (trial.isAllServed()) {
                duals.putDifference(bin, bound, trial.costTop(), trial.costBottom());
            } else {
                duals.putNone(bin);
            }
        }

        long tellUsed(int k, int part) {
            int variable = best.variableOfColumn[k];
            if (isAny && variable != NONE && !uses.isKnown(k)) {
                trial.copy(best);
                trial.favour(variable);
                trial.minimise();
                uses.put(k, trial.amountTop(variable), trial.denominator);
            }
            return uses.tell(k, part);
        }
    }

    /**
     * The least cost of mixtures by the simplex method in whole numbers: all cells are
     * numerators over one denominator, which is the determinant of the basis, so that each
     * division of a pivot leaves no remainder. Determinants of seven rows of 0 and 1 are at
     * most 32, so that all numbers stay far within a long.
     */
    private static final class Tableau {
        private static final int COSTS = 0;
        private static final int VEHICLES = 1;
        private static final int FIRST_BIN = 2;
        private static final int MOST_ROWS = FIRST_BIN + MOST_BINS;

        private static final int AMOUNT = 0;
        private static final int IDLE = 1;
        private static final int FIRST_ROUND = 2;
        private static final int MOST_WIDTH = FIRST_ROUND + MOST_COLUMNS;

        // Costs of two corners differ by at least 1 over 32 times 32, and amounts of a column
        // by at most 1: at this scale a favour of 1 decides only between equal costs.
        private static final long SCALE = 2048;
        // Six rounds cost at most 84000 and a corner leaves 0 or at least 1/32 unserved: this is
        // above 32 * 84000 * SCALE, so that nothing stays unserved if all can be served.
        private static final long UNSERVED_COST = 10_000_000_000L;
        // To take what saves most is quick but could go in circles; to take the first that
        // enters and, of equals, the first that leaves (Bland's rule) never does.
        private static final int GREEDY_PIVOTS = 12;
        // Far above what any tableau of this size needs.
        private static final int MOST_PIVOTS = 1_000_000;

        final int[] variableOfColumn = new int[MOST_COLUMNS];
        long denominator = 1;
        private int height = FIRST_BIN;
        private int width = FIRST_ROUND;
        private final long[][] cells = new long[MOST_ROWS][MOST_WIDTH];
        // Below 0: what is unserved of the row's bin.
        private final int[] basis = new int[MOST_ROWS];

        void lay(Rounds rounds, int served) {
            height = FIRST_BIN + rounds.bins;
            width = FIRST_ROUND;
            denominator = 1;
            layStart(served, rounds.vehicles);
            for (int k = 0; k < rounds.columnCount; k++) {
                int set = rounds.columnSets[k];
                boolean isOpen = !rounds.barred[set] && (set & ~served) == 0;
                variableOfColumn[k] = isOpen ? addRound(set, rounds.cost[set]) : NONE;
            }
        }

        private void layStart(int served, int vehicles) {
            cells[COSTS][AMOUNT] = -UNSERVED_COST * Integer.bitCount(served);
            cells[COSTS][IDLE] = 0;
            cells[VEHICLES][AMOUNT] = vehicles;
            cells[VEHICLES][IDLE] = 1;
            basis[VEHICLES] = IDLE;
            for (int row = FIRST_BIN; row < height; row++) {
                cells[row][AMOUNT] = isIn(served, row - FIRST_BIN) ? 1 : 0;
                cells[row][IDLE] = 0;
                basis[row] = -row;
            }
        }

        private int addRound(int set, long cost) {
            int variable = width;
            cells[COSTS][variable] = SCALE * cost - UNSERVED_COST * Integer.bitCount(set);
            cells[VEHICLES][variable] = 1;
            for (int row = FIRST_BIN; row < height; row++) {
                cells[row][variable] = isIn(set, row - FIRST_BIN) ? 1 : 0;
            }
            width = variable + 1;
            return variable;
        }

        void copy(Tableau other) {
            height = other.height;
            width = other.width;
            denominator = other.denominator;
            for (int row = 0; row < height; row++) {
                System.arraycopy(other.cells[row], 0, cells[row], 0, width);
            }
            System.arraycopy(other.basis, 0, basis, 0, height);
        }

        /** Makes a variable cheaper by 1, which is less than any difference of costs. */
        void favour(int variable) {
            cells[COSTS][variable] -= denominator;
            int row = rowOf(variable);
            if (row != NONE) {
                for (int at = 0; at < width; at++) {
                    cells[COSTS][at] += cells[row][at];
                }
            }
        }

        void minimise() {
            for (int pivots = 0; pivots < MOST_PIVOTS; pivots++) {
                int entering = pivots < GREEDY_PIVOTS ? thatSavesMost() : firstThatSaves();
                int row = entering == NONE ? NONE : tightestRow(entering);
                if (row == NONE) {
                    return;
                }
                pivot(row, entering);
            }
        }

        private int thatSavesMost() {
            int best = NONE;
            for (int variable = IDLE; variable < width; variable++) {
                if (cells[COSTS][variable] < 0
                        && (best == NONE || cells[COSTS][variable] < cells[COSTS][best])) {
                    best = variable;
                }
            }
            return best;
        }

        private int firstThatSaves() {
            for (int variable = IDLE; variable < width; variable++) {
                if (cells[COSTS][variable] < 0) {
                    return variable;
                }
            }
            return NONE;
        }

        private int tightestRow(int entering) {
            int tightest = NONE;
            for (int row = VEHICLES; row < height; row++) {
                if (cells[row][entering] > 0
                        && (tightest == NONE || isTighter(row, tightest, entering))) {
                    tightest = row;
                }
            }
            return tightest;
        }

        private boolean isTighter(int row, int other, int entering) {
            long here = cells[row][AMOUNT] * cells[other][entering];
            long there = cells[other][AMOUNT] * cells[row][entering];
            return here < there || here == there && basis[row] < basis[other];
        }

        private void pivot(int pivotRow, int entering) {
            long pivot = cells[pivotRow][entering];
            if (pivot <= 0 || denominator <= 0) {
                return;
            }
            for (int row = 0; row < height; row++) {
                if (row != pivotRow) {
                    eliminate(row, pivotRow, entering);
                }
            }
            denominator = pivot;
            basis[pivotRow] = entering;
        }

        private void eliminate(int row, int pivotRow, int entering) {
            long pivot = cells[pivotRow][entering];
            long factor = cells[row][entering];
            if (factor == 0 && pivot == denominator) {
                return;
            }
            for (int at = 0; at < width; at++) {
                long whole = cells[row][at] * pivot - factor * cells[pivotRow][at];
                cells[row][at] = whole / denominator;
            }
        }

        private int rowOf(int variable) {
            for (int row = VEHICLES; row < height; row++) {
                if (basis[row] == variable) {
                    return row;
                }
            }
            return NONE;
        }

        boolean isAllServed() {
            for (int row = FIRST_BIN; row < height; row++) {
                if (basis[row] < 0 && cells[row][AMOUNT] > 0) {
                    return false;
                }
            }
            return true;
        }

        long costTop() {
            return -cells[COSTS][AMOUNT];
        }

        long costBottom() {
            return denominator * SCALE;
        }

        long amountTop(int variable) {
            int row = rowOf(variable);
            return row == NONE ? 0 : cells[row][AMOUNT];
        }
    }

    /** Fractions in lowest terms; both parts of one that is none, or not yet known, are 0. */
    private static final class FractionRow {
        // Twice the bits of a long: no greatest divisor takes more divisions.
        private static final int MOST_DIVISIONS = 128;

        private final boolean[] known;
        private final long[] tops;
        private final long[] bottoms;

        FractionRow(int size) {
            known = new boolean[size];
            tops = new long[size];
            bottoms = new long[size];
        }

        void forget() {
            for (int k = 0; k < known.length; k++) {
                known[k] = false;
                tops[k] = 0;
                bottoms[k] = 0;
            }
        }

        boolean isKnown(int k) {
            return known[k];
        }

        void putNone(int k) {
            known[k] = true;
            tops[k] = 0;
            bottoms[k] = 0;
        }

        void put(int k, long top, long bottom) {
            long divisor = bottom > 0 ? greatestDivisor(Math.abs(top), bottom) : 0;
            if (divisor <= 0) {
                putNone(k);
                return;
            }
            known[k] = true;
            tops[k] = top / divisor;
            bottoms[k] = bottom / divisor;
        }

        /** Puts the only fraction of a row less another one. */
        void putDifference(int k, FractionRow from, long top, long bottom) {
            long difference = from.tops[0] * bottom - top * from.bottoms[0];
            put(k, difference, from.bottoms[0] * bottom);
        }

        long tell(int k, int part) {
            if (part == 0) {
                return tops[k];
            }
            return part == 1 ? bottoms[k] : 0;
        }

        private static long greatestDivisor(long a, long b) {
            long greater = a;
            long lesser = b;
            for (int i = 0; i < MOST_DIVISIONS && lesser != 0; i++) {
                long rest = greater % lesser;
                greater = lesser;
                lesser = rest;
            }
            return greater;
        }
    }
}
