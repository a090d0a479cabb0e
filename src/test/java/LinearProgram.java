/**
 * The least of cost * x with rows * x = right and x from 0 on, right from 0 on, in fractions.
 * It proves each of its answers by duality, so that it needs no trust in how it found them.
 */
final class LinearProgram {
    private final Fraction[][] rows;
    private final Fraction[] right;
    private final Fraction[] cost;
    private final int height;
    private final int width;

    private Fraction[][] cells;
    private Fraction[] reduced;
    private int[] basis;

    LinearProgram(Fraction[][] rows, Fraction[] right, Fraction[] cost) {
        this.rows = rows;
        this.right = right;
        this.cost = cost;
        height = right.length;
        width = cost.length;
    }

    /** Null when no x is such. */
    Fraction least() {
        layWithHelpers();
        pivotToTheEnd();
        if (!proveAnySolution()) {
            return null;
        }
        driveHelpersOut();
        layCosts();
        pivotToTheEnd();
        return proveLeast();
    }

    private void layWithHelpers() {
        cells = new Fraction[height][width + height + 1];
        basis = new int[height];
        reduced = new Fraction[width + height + 1];
        for (int i = 0; i < height; i++) {
            for (int j = 0; j < width; j++) {
                cells[i][j] = rows[i][j];
            }
            for (int j = 0; j < height; j++) {
                cells[i][width + j] = i == j ? Fraction.ONE : Fraction.ZERO;
            }
            cells[i][width + height] = right[i];
            basis[i] = width + i;
        }
        for (int j = 0; j <= width + height; j++) {
            Fraction sum = j >= width && j < width + height ? Fraction.ONE : Fraction.ZERO;
            for (int i = 0; i < height; i++) {
                sum = sum.minus(cells[i][j]);
            }
            reduced[j] = sum;
        }
    }

    private void layCosts() {
        for (int j = 0; j <= width + height; j++) {
            Fraction sum = j < width ? cost[j] : Fraction.ZERO;
            for (int i = 0; i < height; i++) {
                if (basis[i] < width) {
                    sum = sum.minus(cost[basis[i]].times(cells[i][j]));
                }
            }
            reduced[j] = sum;
        }
    }

    private void pivotToTheEnd() {
        while (true) {
            int entering = -1;
            for (int j = 0; j < width && entering < 0; j++) {
                entering = reduced[j].sign() < 0 ? j : -1;
            }
            if (entering < 0) {
                return;
            }
            int leaving = -1;
            Fraction least = null;
            for (int i = 0; i < height; i++) {
                if (cells[i][entering].sign() > 0) {
                    Fraction ratio = cells[i][width + height].over(cells[i][entering]);
                    int order = least == null ? -1 : ratio.compareWith(least);
                    if (order < 0 || order == 0 && basis[i] < basis[leaving]) {
                        least = ratio;
                        leaving = i;
                    }
                }
            }
            demand(leaving >= 0, "the program is bounded");
            pivot(leaving, entering);
        }
    }

    private void pivot(int row, int column) {
        Fraction by = cells[row][column];
        for (int j = 0; j <= width + height; j++) {
            cells[row][j] = cells[row][j].over(by);
        }
        for (int i = 0; i < height; i++) {
            if (i != row) {
                subtract(cells[i], cells[row], cells[i][column]);
            }
        }
        subtract(reduced, cells[row], reduced[column]);
        basis[row] = column;
    }

    private static void subtract(Fraction[] from, Fraction[] row, Fraction times) {
        if (times.sign() != 0) {
            for (int j = 0; j < from.length; j++) {
                if (row[j].sign() != 0) {
                    from[j] = from[j].minus(row[j].times(times));
                }
            }
        }
    }

    private void driveHelpersOut() {
        for (int i = 0; i < height; i++) {
            for (int j = 0; j < width && basis[i] >= width; j++) {
                if (cells[i][j].sign() != 0) {
                    pivot(i, j);
                }
            }
        }
    }

    private boolean proveAnySolution() {
        if (reduced[width + height].sign() == 0) {
            return true;
        }
        Fraction[] y = new Fraction[height];
        for (int i = 0; i < height; i++) {
            y[i] = Fraction.ONE.minus(reduced[width + i]);
        }
        for (int j = 0; j < width; j++) {
            demand(worth(y, j).sign() <= 0, "no column gains by the weights");
        }
        demand(product(y, right).sign() > 0, "but the right side does");
        return false;
    }

    private Fraction proveLeast() {
        Fraction[] x = new Fraction[width];
        java.util.Arrays.fill(x, Fraction.ZERO);
        for (int i = 0; i < height; i++) {
            if (basis[i] < width) {
                x[basis[i]] = cells[i][width + height];
            }
        }
        Fraction[] y = new Fraction[height];
        for (int i = 0; i < height; i++) {
            demand(product(rows[i], x).compareWith(right[i]) == 0, "each row holds");
            y[i] = reduced[width + i].negative();
        }
        for (int j = 0; j < width; j++) {
            demand(x[j].sign() >= 0, "no number is below 0");
            demand(worth(y, j).compareWith(cost[j]) <= 0, "no column is worth above its cost");
        }
        Fraction least = product(cost, x);
        demand(product(y, right).compareWith(least) == 0, "cost and worth are the same");
        return least;
    }

    private Fraction worth(Fraction[] y, int column) {
        Fraction sum = Fraction.ZERO;
        for (int i = 0; i < height; i++) {
            sum = sum.plus(y[i].times(rows[i][column]));
        }
        return sum;
    }

    private static Fraction product(Fraction[] a, Fraction[] b) {
        Fraction sum = Fraction.ZERO;
        for (int i = 0; i < a.length; i++) {
            sum = sum.plus(a[i].times(b[i]));
        }
        return sum;
    }

    private static void demand(boolean holds, String what) {
        if (!holds) {
            throw new IllegalStateException("the model's program is wrong: " + what);
        }
    }
}
