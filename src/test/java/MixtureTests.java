import java.util.Random;

/** Every number of mixtures, for towns drawn from fixed seeds, against the model. */
public final class MixtureTests {
    private static final int TOWNS = 100;
    /** Towns where vehicles that were all out at first stay idle in the end; most have none. */
    private static final int[] IDLE_AGAIN = {635, 883, 2485, 5346, 6975, 7255, 7418, 7644, 10189};
    private static final int MOST_CALLS = 512;

    private static int wrong;
    private static int asked;

    private final int seed;
    private final Random random;
    private final RoundColumns real = new RoundColumns();
    private final Model model = new Model();
    private int calls;

    private MixtureTests(int seed) {
        this.seed = seed;
        random = new Random(seed);
    }

    public static void main(String[] args) {
        for (int seed = 0; seed < TOWNS; seed++) {
            new MixtureTests(seed).go();
        }
        for (int seed : IDLE_AGAIN) {
            new MixtureTests(seed).go();
        }
        System.out.println(asked + " answers of mixtures, " + wrong + " wrong");
        if (wrong != 0) {
            System.exit(1);
        }
    }

    private void due(String call, long got, long want) {
        calls++;
        asked++;
        if (got != want) {
            wrong++;
            System.out.println("town " + seed + ": " + call + " answered " + got
                    + ", due is " + want);
        }
    }

    private void go() {
        int bins = 2 + random.nextInt(5);
        drawTown(bins);
        for (int i = 0; i < 4; i++) {
            int load = 2 + random.nextInt(14);
            int seconds = 4 + random.nextInt(20);
            int vehicles = 1 + random.nextInt(4);
            real.vehicle(load, seconds, vehicles);
            model.vehicle(load, seconds, vehicles);
            calls++;
            due("run " + i, real.run(192), model.run(192));
            askAll(bins);
        }
    }

    private void drawTown(int bins) {
        int range = new int[] {3, 12, 100, 2001}[random.nextInt(4)];
        int fromDepot = random.nextInt(3) * range / 2;
        for (int b = 0; b < bins; b++) {
            int kilograms = 1 + random.nextInt(4);
            due("bin", real.bin(kilograms, 0), model.bin(kilograms, 0));
        }
        for (int a = 0; a <= bins; a++) {
            for (int b = 0; b <= bins; b++) {
                if (a != b && random.nextInt(8) > 0) {
                    int more = a == 0 || b == 0 ? fromDepot : 0;
                    int cost = Math.min(2000, random.nextInt(range) + more);
                    int seconds = random.nextInt(4);
                    real.way(a, b, seconds, cost);
                    model.way(a, b, seconds, cost);
                    calls++;
                }
            }
        }
    }

    private void askAll(int bins) {
        for (int part = 0; part < 2; part++) {
            due("bound(" + part + ")", real.bound(part), model.bound(part));
            for (int b = 0; b < bins; b++) {
                due("dual(" + b + ", " + part + ")", real.dual(b, part), model.dual(b, part));
            }
            int columns = Math.min(model.columns(), MOST_CALLS - calls);
            for (int k = 0; k < columns; k++) {
                due("used(" + k + ", " + part + ")", real.used(k, part), model.used(k, part));
            }
        }
    }
}
