import java.util.ArrayList;
import java.util.List;
import java.util.Map;
import java.util.Random;
import java.util.TreeMap;

/** Runs of calls drawn from fixed seeds: the class and the model must answer each alike. */
public final class ModelTests {
    private static final int RUNS = 1500;
    private static final int CALLS = 500;
    private static final int[] ODD = {
        Integer.MIN_VALUE, -7, -2, -1, 0, 1, 2, 5, 6, 7, 31, 32, 63, 64, 65, 191, 192,
        1000, 1001, 2000, 2001, 6000, 6001, 20000, 20001, Integer.MAX_VALUE,
    };
    private static final long[] ODD_LONG = {
        Long.MIN_VALUE, -1, 0, 1, 1000, 1001, 2000, 2001, 6000, 6001, 1L << 32, Long.MAX_VALUE,
    };

    private static int wrong;
    /** How often the draw met what it is there for, so that it can't pass by missing it. */
    private static final Map<String, Integer> SEEN = new TreeMap<>();
    private static final int LEAST_SEEN = 20;

    private final int seed;
    private final Random random;
    private final RoundColumns real = new RoundColumns();
    private final Model model = new Model();
    private final List<String> calls = new ArrayList<>();
    private int costs;
    private int seconds;
    private int kilograms;
    private double wayChance;
    private boolean isDense;

    private ModelTests(int seed) {
        this.seed = seed;
        random = new Random(seed);
    }

    public static void main(String[] args) {
        for (int seed = 0; seed < RUNS && wrong == 0; seed++) {
            new ModelTests(seed).go();
        }
        System.out.println(RUNS + " drawn runs, " + wrong + " wrong answers; seen " + SEEN);
        for (int times : SEEN.values()) {
            wrong += times < LEAST_SEEN ? 1 : 0;
        }
        if (wrong != 0) {
            System.exit(1);
        }
    }

    private void due(String call, long got, long want) {
        calls.add(call + " = " + got);
        if (got != want && wrong++ == 0) {
            System.out.println("seed " + seed + ":");
            calls.forEach(System.out::println);
            System.out.println("due is " + want);
        }
    }

    private static long number(boolean answer) {
        return answer ? 1 : 0;
    }

    private static void see(String what, boolean isSeen) {
        SEEN.merge(what, isSeen ? 1 : 0, Integer::sum);
    }

    private void go() {
        costs = pick(1, 3, 12, 100, 2001);
        seconds = pick(1, 3, 10, 1001);
        kilograms = pick(1, 4, 10, 1001);
        // Mixtures of parts of rounds are rare unless most rounds are there.
        isDense = random.nextInt(3) > 0;
        wayChance = isDense ? 1 : pick(2, 5, 8, 10) / 10.0;
        if (random.nextInt(10) == 0) {
            askAll();
        }
        int bins = isDense ? 4 + random.nextInt(3) : random.nextInt(8);
        for (int i = 0; i < bins; i++) {
            addBin();
        }
        for (int a = 0; a <= bins; a++) {
            for (int b = 0; b <= bins; b++) {
                if (random.nextDouble() < wayChance) {
                    tellWay(a, b);
                }
            }
        }
        while (calls.size() < CALLS && wrong == 0) {
            change();
            if (random.nextInt(3) > 0) {
                runIt();
            }
            askAll();
        }
    }

    private int pick(int... from) {
        return from[random.nextInt(from.length)];
    }

    private boolean isOdd() {
        return random.nextInt(isDense ? 40 : 12) == 0;
    }

    private int odd(int usual) {
        return isOdd() ? pick(ODD) : usual;
    }

    private long oddLong(long usual) {
        return isOdd() ? ODD_LONG[random.nextInt(ODD_LONG.length)] : usual;
    }

    private void addBin() {
        long weight = oddLong(random.nextInt(kilograms));
        int stay = odd(random.nextInt(seconds));
        due("bin(" + weight + ", " + stay + ")", real.bin(weight, stay), model.bin(weight, stay));
    }

    private void tellWay(int a, int b) {
        int time = odd(random.nextInt(seconds));
        long cost = oddLong(random.nextInt(costs));
        due("way(" + a + ", " + b + ", " + time + ", " + cost + ")",
                number(real.way(a, b, time, cost)), number(model.way(a, b, time, cost)));
    }

    private void change() {
        int changes = 1 + random.nextInt(3);
        for (int i = 0; i < changes; i++) {
            switch (random.nextInt(7)) {
                case 0 -> addBin();
                case 1 -> tellWay(odd(random.nextInt(7)), odd(random.nextInt(7)));
                case 2, 3, 4 -> tellVehicle();
                case 5 -> tellPair();
                default -> forgetPairs();
            }
        }
    }

    private void tellVehicle() {
        long load = oddLong(Math.min(6000, random.nextInt(4 * kilograms)));
        int time = odd(Math.min(20000, (isDense ? 3 : 0) + random.nextInt(12) * seconds));
        int n = odd((isDense ? 2 : 0) + random.nextInt(isDense ? 3 : 7));
        due("vehicle(" + load + ", " + time + ", " + n + ")",
                number(real.vehicle(load, time, n)), number(model.vehicle(load, time, n)));
    }

    private void tellPair() {
        int a = odd(random.nextInt(6));
        int b = odd(random.nextInt(6));
        boolean together = random.nextBoolean();
        due("branch(" + a + ", " + b + ", " + together + ")",
                number(real.branch(a, b, together)), number(model.branch(a, b, together)));
    }

    private void forgetPairs() {
        real.clear();
        model.clear();
        due("clear()", 0, 0);
    }

    private void runIt() {
        int steps = random.nextInt(4) == 0 ? odd(random.nextInt(200)) : 192;
        long got;
        long want;
        try {
            got = real.run(steps);
        } catch (IllegalStateException e) {
            got = -9;
        }
        try {
            want = model.run(steps);
        } catch (IllegalStateException e) {
            want = -9;
        }
        due("run(" + steps + ")", got, want);
        see("run throws", got == -9);
        see("no mixture", got == 1);
        see("bound of thirds or less", model.bound(1) > 2);
        see("bound of halves", model.bound(1) == 2);
        see("all columns of six bins", got == 0 && model.columns() == 63);
        see("columns not closed", model.columns() > 0 && !model.labelsClosed());
    }

    private void askAll() {
        due("steps()", real.steps(), model.steps());
        due("columns()", real.columns(), model.columns());
        due("cuts()", real.cuts(), model.cuts());
        due("check()", real.check(), model.check());
        due("labelsClosed()", number(real.labelsClosed()), number(model.labelsClosed()));
        for (int part = 0; part < 2; part++) {
            due("bound(" + part + ")", real.bound(part), model.bound(part));
        }
        for (int i = 0; i < 8; i++) {
            askByNumber();
        }
    }

    private void askByNumber() {
        int k = odd(random.nextInt(Math.max(1, model.columns() + 1)));
        int i = odd(random.nextInt(6));
        int part = odd(random.nextInt(2));
        due("column(" + k + ", " + i + ")", real.column(k, i), model.column(k, i));
        due("used(" + k + ", " + part + ")", real.used(k, part), model.used(k, part));
        due("share(" + k + ", " + part + ")", real.share(k, part), model.share(k, part));
        due("dual(" + i + ", " + part + ")", real.dual(i, part), model.dual(i, part));
        see("used in part", part == 1 && model.used(k, 1) > 1);
        see("used whole", part == 0 && model.used(k, 0) == 1);
        see("barred", model.bound(1) > 0 && model.column(k, 0) >= 0 && model.used(k, 1) == 0);
        see("dual below 0", part == 0 && model.dual(i, 0) < 0);
        see("dual none", model.bound(1) > 0 && model.dual(i, 1) == 0);
        see("check finds a change", model.check() > 0);
        int label = odd(random.nextInt(Math.max(1, model.steps() + 1)));
        see("label dropped", model.dropped(label));
        due("dropped(" + label + ")", number(real.dropped(label)), number(model.dropped(label)));
        int set = odd(random.nextInt(Math.max(1, model.cuts() + 1)));
        due("cut(" + set + ", " + i + ")", real.cut(set, i), model.cut(set, i));
        due("bound(" + part + ")", real.bound(part), model.bound(part));
    }
}
