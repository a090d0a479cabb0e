/** For each promise of the document ordinary inputs, its edges and wrong inputs. */
public final class PromiseTests extends Answers {
    public static void main(String[] args) {
        newObject();
        bins();
        ways();
        vehicles();
        branches();
        clearing();
        runs();
        runThatThrows();
        labelsCounted();
        columnsCounted();
        columnRounds();
        bounds();
        duals();
        dualsWithPairs();
        uses();
        shares();
        droppedLabels();
        cutSets();
        checks();
        closedLabels();
        whatWasFoundStays();
        end("promises");
    }

    private static void newObject() {
        test = "promise 1";
        RoundColumns x = new RoundColumns();
        due("NONE", RoundColumns.NONE, -1);
        dueNothingFound(x);
        due("labelsClosed()", x.labelsClosed(), false);
        due("way between no places", x.way(0, 1, 0, 0), false);
        due("run(0) of nothing", runOf(x, 0), 0);
        dueBound(x, 0, 1);
        due("labelsClosed()", x.labelsClosed(), true);
        x.bin(0, 0);
        due("run(9) without ways", runOf(x, 9), 1);
        due("steps()", x.steps(), 0);
        x.way(0, 1, 0, 5);
        x.way(1, 0, 0, 6);
        due("run(9) without vehicles", runOf(x, 9), 1);
        due("columns() at a load of 0 and 0 seconds", x.columns(), 1);
        RoundColumns other = new RoundColumns();
        dueNothingFound(other);
        due("bin of another object", other.bin(1, 1), 0);
    }

    private static void bins() {
        test = "promise 2";
        RoundColumns x = new RoundColumns();
        due("bin(-1, 0)", x.bin(-1, 0), -1);
        due("bin(0, -1)", x.bin(0, -1), -1);
        due("bin(1001, 0)", x.bin(1001, 0), -1);
        due("bin(0, 1001)", x.bin(0, 1001), -1);
        due("bin(2^32, 0)", x.bin(1L << 32, 0), -1);
        due("bin(least, 0)", x.bin(Long.MIN_VALUE, 0), -1);
        due("bin(most, 0)", x.bin(Long.MAX_VALUE, 0), -1);
        due("bin(0, least)", x.bin(0, Integer.MIN_VALUE), -1);
        due("bin(0, most)", x.bin(0, Integer.MAX_VALUE), -1);
        due("run of no bins", runOf(x, 0), 0);
        due("bin(0, 0)", x.bin(0, 0), 0);
        due("bin(1000, 1000)", x.bin(1000, 1000), 1);
        for (int b = 2; b < 6; b++) {
            due("bin(7, 8)", x.bin(7, 8), b);
        }
        due("a seventh bin", x.bin(7, 8), -1);
        due("way to the last bin", x.way(0, 6, 0, 0), true);
        due("way past it", x.way(0, 7, 0, 0), false);
        secondsOfBinsCount();
    }

    private static void secondsOfBinsCount() {
        RoundColumns x = new RoundColumns();
        x.bin(0, 5);
        x.way(0, 1, 1, 0);
        x.way(1, 0, 1, 0);
        x.vehicle(0, 6, 1);
        due("run with 7 seconds of 6", runOf(x, 9), 1);
        due("steps() of a row of 6 seconds", x.steps(), 1);
        x.vehicle(0, 5, 1);
        runOf(x, 9);
        due("steps() of a row of 6 seconds of 5", x.steps(), 0);
        x.vehicle(0, 7, 1);
        due("run with 7 seconds of 7", runOf(x, 9), 0);
    }

    private static void ways() {
        test = "promise 3";
        RoundColumns x = new RoundColumns();
        x.bin(0, 0);
        x.vehicle(0, 2000, 1);
        due("way(0, 0, ..)", x.way(0, 0, 1, 1), false);
        due("way(1, 1, ..)", x.way(1, 1, 1, 1), false);
        due("way(0, 2, ..)", x.way(0, 2, 1, 1), false);
        due("way(2, 0, ..)", x.way(2, 0, 1, 1), false);
        due("way(-1, 0, ..)", x.way(-1, 0, 1, 1), false);
        due("way(0, -1, ..)", x.way(0, -1, 1, 1), false);
        due("way(least, 0, ..)", x.way(Integer.MIN_VALUE, 0, 1, 1), false);
        due("way(0, most, ..)", x.way(0, Integer.MAX_VALUE, 1, 1), false);
        due("way(0, 1, 1000, 2000)", x.way(0, 1, 1000, 2000), true);
        due("way(1, 0, 0, 0)", x.way(1, 0, 0, 0), true);
        runOf(x, 9);
        dueBound(x, 2000, 1);
        due("way(1, 0, 7, 3)", x.way(1, 0, 7, 3), true);
        runOf(x, 9);
        dueBound(x, 2003, 1);
        due("way(0, 1, 1001, 1)", x.way(0, 1, 1001, 1), false);
        due("way(0, 1, -1, 1)", x.way(0, 1, -1, 1), false);
        due("way(0, 1, 1, 2001)", x.way(0, 1, 1, 2001), false);
        due("way(0, 1, 1, -1)", x.way(0, 1, 1, -1), false);
        due("way(0, 1, 1, 2^32)", x.way(0, 1, 1, 1L << 32), false);
        due("way(0, 1, 1, least)", x.way(0, 1, 1, Long.MIN_VALUE), false);
        runOf(x, 9);
        dueBound(x, 2003, 1);
        x.vehicle(0, 1006, 1);
        due("run with a way too long", runOf(x, 9), 1);
        due("bin(0, 0)", x.bin(0, 0), 1);
        due("way to the new bin", x.way(1, 2, 0, 0), true);
    }

    private static void vehicles() {
        test = "promise 4";
        RoundColumns x = alike(2, 3, 2);
        due("vehicle(6000, 20000, 6)", x.vehicle(6000, 20000, 6), true);
        due("vehicle(0, 0, 0)", x.vehicle(0, 0, 0), true);
        due("vehicle(6, 3, 2)", x.vehicle(6, 3, 2), true);
        due("run", runOf(x, 9), 0);
        dueBound(x, 21, 1);
        due("vehicle(-1, 3, 0)", x.vehicle(-1, 3, 0), false);
        due("vehicle(6001, 3, 0)", x.vehicle(6001, 3, 0), false);
        due("vehicle(6, -1, 0)", x.vehicle(6, -1, 0), false);
        due("vehicle(6, 20001, 0)", x.vehicle(6, 20001, 0), false);
        due("vehicle(0, 3, -1)", x.vehicle(0, 3, -1), false);
        due("vehicle(0, 3, 7)", x.vehicle(0, 3, 7), false);
        due("vehicle(2^32, 3, 0)", x.vehicle(1L << 32, 3, 0), false);
        due("vehicle(least, least, least)",
                x.vehicle(Long.MIN_VALUE, Integer.MIN_VALUE, Integer.MIN_VALUE), false);
        due("run after refusals", runOf(x, 9), 0);
        dueBound(x, 21, 1);
        x.vehicle(5, 3, 2);
        runOf(x, 9);
        dueBound(x, 40, 1);
        x.vehicle(6, 2, 2);
        runOf(x, 9);
        dueBound(x, 40, 1);
        x.vehicle(6, 2, 1);
        due("run of one vehicle for two rounds", runOf(x, 9), 1);
    }

    private static void branches() {
        test = "promise 5";
        RoundColumns x = alike(2, 6, 2);
        due("branch(0, 0, true)", x.branch(0, 0, true), false);
        due("branch(0, 2, true)", x.branch(0, 2, true), false);
        due("branch(2, 0, true)", x.branch(2, 0, true), false);
        due("branch(-1, 0, false)", x.branch(-1, 0, false), false);
        due("branch(0, -1, false)", x.branch(0, -1, false), false);
        due("branch(0, 33, false)", x.branch(0, 33, false), false);
        due("branch(least, most, false)",
                x.branch(Integer.MIN_VALUE, Integer.MAX_VALUE, false), false);
        runOf(x, 9);
        dueBound(x, 21, 1);
        dueUsed(x, 0, 0, 1);
        due("branch(0, 1, false)", x.branch(0, 1, false), true);
        runOf(x, 9);
        dueBound(x, 40, 1);
        dueUsed(x, 2, 0, 0);
        due("branch(1, 0, true)", x.branch(1, 0, true), true);
        runOf(x, 9);
        dueBound(x, 21, 1);
        dueUsed(x, 0, 0, 0);
        dueUsed(x, 1, 0, 0);
        x.branch(0, 1, false);
        runOf(x, 9);
        dueBound(x, 40, 1);
        pairsOfThree();
    }

    private static void pairsOfThree() {
        RoundColumns x = alike(3, 9, 3);
        x.branch(0, 1, true);
        x.branch(1, 2, false);
        due("run", runOf(x, PLENTY), 0);
        dueBound(x, 41, 1);
        // Sets 1, 2, 5, 6 and 7 are barred; 3 and 4 make the mixture.
        dueUsed(x, 2, 1, 1);
        dueUsed(x, 3, 1, 1);
        dueUsed(x, 4, 0, 0);
        dueUsed(x, 5, 0, 0);
        dueUsed(x, 6, 0, 0);
        x.branch(0, 2, true);
        due("run of 0 with 1, 0 with 2, not 1 with 2", runOf(x, PLENTY), 1);
        due("columns()", x.columns(), 7);
    }

    private static void clearing() {
        test = "promise 6";
        RoundColumns x = alike(3, 9, 3);
        x.branch(0, 1, false);
        x.branch(1, 2, false);
        x.branch(0, 2, true);
        runOf(x, PLENTY);
        dueBound(x, 41, 1);
        x.clear();
        dueBound(x, 41, 1);
        runOf(x, PLENTY);
        dueBound(x, 22, 1);
        x.clear();
        runOf(x, PLENTY);
        dueBound(x, 22, 1);
    }

    private static void runs() {
        test = "promise 7";
        RoundColumns x = alike(6, 6000, 6);
        due("run(192) of all labels of six bins", runOf(x, 192), 0);
        due("steps()", x.steps(), 192);
        due("columns()", x.columns(), 63);
        dueBound(x, 25, 1);
        due("run(191)", runOf(x, 191), THREW);
        due("run(most)", runOf(x, Integer.MAX_VALUE), 0);
        x.vehicle(6000, 100, 0);
        due("run of no vehicles", runOf(x, 192), 1);
        x.vehicle(8, 100, 2);
        due("run of two vehicles for two of six", runOf(x, 192), 1);
        x.vehicle(8, 100, 3);
        due("run of three", runOf(x, 192), 0);
        dueBound(x, 63, 1);
    }

    private static void runThatThrows() {
        test = "promise 7";
        RoundColumns x = alike(2, 6, 2);
        due("run(-1)", runOf(x, -1), THREW);
        due("run(least)", runOf(x, Integer.MIN_VALUE), THREW);
        due("run(3)", runOf(x, 3), THREW);
        dueNothingFound(x);
        due("labelsClosed()", x.labelsClosed(), false);
        due("run(4)", runOf(x, 4), 0);
        x.way(0, 1, 1, 100);
        x.vehicle(5, 100, 2);
        x.branch(0, 1, false);
        due("run(1)", runOf(x, 1), THREW);
        due("steps()", x.steps(), 4);
        due("columns()", x.columns(), 3);
        dueBound(x, 21, 1);
        dueColumn(x, 2, 0, 1);
        dueUsed(x, 2, 1, 1);
        dueDual(x, 0, 1, 1);
        dueShare(x, 2, 1, 1);
        due("cuts()", x.cuts(), 0);
        due("labelsClosed()", x.labelsClosed(), true);
        due("run(2)", runOf(x, 2), 0);
        dueBound(x, 130, 1);
    }

    private static void labelsCounted() {
        test = "promise 8";
        RoundColumns x = alike(3, 6, 2);
        due("steps() before run()", x.steps(), 0);
        runOf(x, PLENTY);
        due("steps() of sets of one and two", x.steps(), 9);
        x.vehicle(9, 100, 2);
        due("steps() before the next run()", x.steps(), 9);
        runOf(x, PLENTY);
        due("steps() of all sets of three", x.steps(), 12);
        x.vehicle(9, 2, 2);
        runOf(x, PLENTY);
        due("steps() of rows of two seconds", x.steps(), 9);
        x.vehicle(9, 0, 2);
        runOf(x, PLENTY);
        due("steps() of no rows", x.steps(), 0);
        RoundColumns oneWay = new RoundColumns();
        oneWay.bin(0, 0);
        oneWay.bin(0, 0);
        oneWay.way(0, 1, 0, 0);
        oneWay.way(1, 2, 0, 0);
        oneWay.vehicle(0, 0, 1);
        runOf(oneWay, PLENTY);
        due("steps() of 0 and of 0, 1", oneWay.steps(), 2);
    }

    private static void columnsCounted() {
        test = "promise 9";
        RoundColumns x = alike(3, 6, 2);
        due("columns() before run()", x.columns(), 0);
        runOf(x, PLENTY);
        due("columns()", x.columns(), 6);
        x.branch(0, 1, true);
        x.branch(0, 2, false);
        runOf(x, PLENTY);
        due("columns() with barred ones", x.columns(), 6);
        x.vehicle(9, 2, 2);
        runOf(x, PLENTY);
        due("columns() of rounds of two seconds", x.columns(), 3);
    }

    private static void columnRounds() {
        test = "promise 10";
        RoundColumns x = alike(3, 9, 1);
        runOf(x, PLENTY);
        dueColumn(x, 0, 0);
        dueColumn(x, 1, 1);
        dueColumn(x, 2, 0, 1);
        dueColumn(x, 3, 2);
        dueColumn(x, 4, 0, 2);
        dueColumn(x, 5, 1, 2);
        dueColumn(x, 6, 0, 1, 2);
        due("column(7, 0)", x.column(7, 0), -1);
        due("column(-1, 0)", x.column(-1, 0), -1);
        due("column(0, -1)", x.column(0, -1), -1);
        due("column(6, least)", x.column(6, Integer.MIN_VALUE), -1);
        due("column(most, most)", x.column(Integer.MAX_VALUE, Integer.MAX_VALUE), -1);
        // 2, 0, 1 and 2, 1, 0 cost the same then, and the one with the lesser bin comes first.
        x.way(0, 3, 1, 5);
        runOf(x, PLENTY);
        dueColumn(x, 4, 2, 0);
        dueColumn(x, 6, 2, 0, 1);
        // The cheapest row that is too long is no round.
        x.way(3, 1, 99, 1);
        runOf(x, PLENTY);
        dueColumn(x, 4, 0, 2);
        dueColumn(x, 6, 2, 1, 0);
    }

    private static void bounds() {
        test = "promise 11";
        RoundColumns x = alike(3, 6, 2);
        dueBound(x, 0, 0);
        runOf(x, PLENTY);
        dueBound(x, 63, 2);
        due("bound(-1)", x.bound(-1), 0);
        due("bound(2)", x.bound(2), 0);
        due("bound(least)", x.bound(Integer.MIN_VALUE), 0);
        x.vehicle(6, 100, 1);
        dueBound(x, 63, 2);
        due("run of one vehicle for half of three", runOf(x, PLENTY), 1);
        dueBound(x, 0, 0);
        RoundColumns four = alike(4, 9, 2);
        runOf(four, PLENTY);
        // Each of the four sets of three a third: 4/3 rounds of 22.
        dueBound(four, 88, 3);
        RoundColumns free = alike(1, 3, 1);
        free.way(0, 1, 0, 0);
        free.way(1, 0, 0, 0);
        runOf(free, 1);
        dueBound(free, 0, 1);
    }

    private static void duals() {
        test = "promise 12";
        RoundColumns x = alike(3, 6, 2);
        dueDual(x, 0, 0, 0);
        runOf(x, PLENTY);
        for (int b = 0; b < 3; b++) {
            dueDual(x, b, 21, 2);
        }
        dueDual(x, 3, 0, 0);
        dueDual(x, -1, 0, 0);
        dueDual(x, Integer.MAX_VALUE, 0, 0);
        due("dual(0, 2)", x.dual(0, 2), 0);
        due("dual(0, -1)", x.dual(0, -1), 0);
        RoundColumns chain = new RoundColumns();
        chain.bin(0, 0);
        chain.bin(0, 0);
        chain.way(0, 1, 0, 1);
        chain.way(1, 2, 0, 1);
        chain.way(2, 0, 0, 1);
        chain.way(0, 2, 0, 2000);
        chain.vehicle(0, 0, 1);
        due("run of a chain", runOf(chain, 9), 0);
        dueBound(chain, 3, 1);
        dueDual(chain, 0, -1998, 1);
        dueDual(chain, 1, 0, 0);
        chain.vehicle(0, 0, 0);
        dueDual(chain, 0, -1998, 1);
        due("run of no vehicles", runOf(chain, 9), 1);
        dueDual(chain, 0, 0, 0);
    }

    private static void dualsWithPairs() {
        test = "promise 12";
        RoundColumns x = alike(3, 9, 3);
        x.branch(0, 1, true);
        due("run", runOf(x, PLENTY), 0);
        dueBound(x, 22, 1);
        // Columns with 0 and not 1 stay barred, so that there is no mixture without 1.
        dueDual(x, 0, 0, 0);
        dueDual(x, 1, 0, 0);
        dueDual(x, 2, 1, 1);
        x.clear();
        dueDual(x, 0, 0, 0);
        runOf(x, PLENTY);
        dueDual(x, 0, 1, 1);
    }

    private static void uses() {
        test = "promise 13";
        RoundColumns x = alike(3, 6, 2);
        dueUsed(x, 0, 0, 0);
        runOf(x, PLENTY);
        int[] halves = {0, 0, 1, 0, 1, 1};
        for (int k = 0; k < 6; k++) {
            dueUsed(x, k, halves[k], 1 + halves[k]);
        }
        dueUsed(x, 6, 0, 0);
        dueUsed(x, -1, 0, 0);
        dueUsed(x, Integer.MIN_VALUE, 0, 0);
        due("used(2, 2)", x.used(2, 2), 0);
        due("used(2, -1)", x.used(2, -1), 0);
        RoundColumns four = alike(4, 6, 4);
        runOf(four, PLENTY);
        // Any two pairs of bins do: each of the six can be used whole, if not in one mixture.
        int[] pairs = {2, 4, 5, 7, 8, 9};
        for (int k : pairs) {
            dueUsed(four, k, 1, 1);
        }
        dueUsed(four, 0, 0, 1);
        four.branch(0, 1, false);
        dueUsed(four, 2, 1, 1);
        runOf(four, PLENTY);
        dueUsed(four, 2, 0, 0);
        // 2 with 3 would leave 0 with 1, which is barred, or 0 and 1 alone.
        dueUsed(four, 9, 0, 1);
        dueUsed(four, 4, 1, 1);
        four.vehicle(6, 100, 1);
        runOf(four, PLENTY);
        dueUsed(four, 4, 0, 0);
    }

    private static void shares() {
        test = "promise 14";
        RoundColumns x = alike(3, 9, 3);
        dueShare(x, 0, 0, 0);
        x.branch(0, 1, false);
        runOf(x, PLENTY);
        dueShare(x, 0, 1, 3);
        dueShare(x, 2, 2, 3);
        dueShare(x, 6, 1, 1);
        dueShare(x, 7, 0, 0);
        dueShare(x, -1, 0, 0);
        due("share(0, 2)", x.share(0, 2), 0);
        due("share(0, -1)", x.share(0, -1), 0);
        x.vehicle(12, 100, 0);
        dueShare(x, 2, 2, 3);
        due("run of no vehicles", runOf(x, PLENTY), 1);
        dueShare(x, 2, 1, 2);
        RoundColumns light = new RoundColumns();
        light.bin(0, 0);
        light.way(0, 1, 0, 0);
        light.way(1, 0, 0, 0);
        runOf(light, 9);
        dueShare(light, 0, 0, 0);
        light.vehicle(7, 0, 0);
        runOf(light, 9);
        dueShare(light, 0, 0, 1);
    }

    private static void droppedLabels() {
        test = "promise 15";
        RoundColumns x = new RoundColumns();
        x.bin(0, 0);
        x.bin(0, 0);
        x.way(0, 1, 1, 1);
        x.way(0, 2, 1, 1);
        x.way(1, 2, 1, 1);
        x.way(2, 1, 1, 1);
        x.way(1, 0, 1, 1);
        x.vehicle(0, 3, 2);
        due("dropped(0) before run()", x.dropped(0), false);
        runOf(x, 9);
        // Labels 0: 0; 1: 1; 2: 0 and 1 that ends with 0; 3: the same that ends with 1.
        due("steps()", x.steps(), 4);
        due("dropped(0)", x.dropped(0), false);
        due("dropped(1)", x.dropped(1), true);
        due("dropped(2)", x.dropped(2), false);
        due("dropped(3)", x.dropped(3), true);
        due("dropped(4)", x.dropped(4), false);
        due("dropped(-1)", x.dropped(-1), false);
        due("dropped(least)", x.dropped(Integer.MIN_VALUE), false);
        due("dropped(most)", x.dropped(Integer.MAX_VALUE), false);
        x.way(2, 0, 2, 1);
        due("dropped(1) still", x.dropped(1), true);
        runOf(x, 9);
        due("dropped(1) with a way home", x.dropped(1), false);
        due("dropped(3) with one too long", x.dropped(3), true);
    }

    private static void cutSets() {
        test = "promise 16";
        RoundColumns x = new RoundColumns();
        x.bin(3, 0);
        x.bin(4, 0);
        x.bin(5, 0);
        x.vehicle(7, 0, 0);
        due("cuts() before run()", x.cuts(), 0);
        runOf(x, 9);
        due("cuts()", x.cuts(), 3);
        test = "promise 17";
        dueCut(x, 0, 0, 2);
        dueCut(x, 1, 1, 2);
        dueCut(x, 2, 0, 1, 2);
        due("cut(3, 0)", x.cut(3, 0), -1);
        due("cut(-1, 0)", x.cut(-1, 0), -1);
        due("cut(0, -1)", x.cut(0, -1), -1);
        due("cut(least, least)", x.cut(Integer.MIN_VALUE, Integer.MIN_VALUE), -1);
        due("cut(most, most)", x.cut(Integer.MAX_VALUE, Integer.MAX_VALUE), -1);
        test = "promise 16";
        x.vehicle(2, 0, 0);
        x.bin(1000, 0);
        due("cuts() before the next run()", x.cuts(), 3);
        runOf(x, 9);
        due("cuts() of all sets of four", x.cuts(), 15);
        dueCut(x, 7, 3);
        x.vehicle(0, 0, 0);
        runOf(x, 9);
        due("cuts() of a load of 0", x.cuts(), 0);
        due("cut(0, 0) of a load of 0", x.cut(0, 0), -1);
        x.vehicle(1012, 0, 0);
        runOf(x, 9);
        due("cuts() of the load of all", x.cuts(), 0);
    }

    private static void checks() {
        test = "promise 18";
        RoundColumns x = alike(3, 9, 3);
        due("check() before run()", x.check(), 0);
        runOf(x, PLENTY);
        due("check()", x.check(), 0);
        x.vehicle(9, 100, 0);
        due("check() of fewer vehicles", x.check(), 0);
        x.vehicle(6, 100, 3);
        due("check() of a lesser load", x.check(), 7);
        x.vehicle(2, 100, 3);
        due("check() of a load below each", x.check(), 1);
        x.vehicle(9, 3, 3);
        due("check() of three seconds", x.check(), 7);
        x.vehicle(9, 2, 3);
        due("check() of two seconds", x.check(), 3);
        x.vehicle(9, 4, 3);
        due("check() of four seconds", x.check(), 0);
        x.way(2, 3, 1, 2);
        due("check() of a dearer way", x.check(), 6);
        x.way(2, 3, 1, 0);
        due("check() of a cheaper way", x.check(), 6);
        x.way(2, 3, 1, 1);
        x.way(3, 2, 1, 0);
        due("check() of a cheaper way that no round goes", x.check(), 0);
        x.way(1, 2, 2, 1);
        due("check() of a longer way", x.check(), 7);
        x.way(1, 2, 1, 2);
        x.way(2, 3, 1, 0);
        due("check() of costs that differ in a column before", x.check(), 3);
        x.branch(0, 1, false);
        runOf(x, PLENTY);
        due("check() after run()", x.check(), 0);
    }

    private static void closedLabels() {
        test = "promise 19";
        RoundColumns x = alike(3, 9, 3);
        due("labelsClosed() before run()", x.labelsClosed(), false);
        due("run(0)", runOf(x, 0), THREW);
        due("labelsClosed() after a throw", x.labelsClosed(), false);
        runOf(x, PLENTY);
        due("labelsClosed()", x.labelsClosed(), true);
        x.branch(0, 1, false);
        runOf(x, PLENTY);
        due("labelsClosed() with barred ones", x.labelsClosed(), true);
        // No round can begin with 0 now, so that 0 alone has none; with others it has.
        x.way(0, 1, 1000, 10);
        due("labelsClosed() before the next run()", x.labelsClosed(), true);
        runOf(x, PLENTY);
        due("columns() without 0", x.columns(), 6);
        due("labelsClosed() without 0", x.labelsClosed(), false);
        due("run(0)", runOf(x, 0), THREW);
        due("labelsClosed() after a throw", x.labelsClosed(), false);
        x.vehicle(9, 0, 3);
        runOf(x, PLENTY);
        due("labelsClosed() of no columns", x.labelsClosed(), true);
    }

    private static void whatWasFoundStays() {
        test = "promise 7";
        RoundColumns x = alike(3, 6, 2);
        runOf(x, PLENTY);
        x.bin(3, 0);
        x.way(0, 4, 1, 0);
        x.way(4, 0, 1, 0);
        x.way(0, 1, 1, 0);
        x.vehicle(9, 50, 1);
        x.branch(0, 1, true);
        due("steps()", x.steps(), 9);
        due("columns()", x.columns(), 6);
        dueBound(x, 63, 2);
        dueDual(x, 0, 21, 2);
        dueDual(x, 3, 0, 0);
        dueUsed(x, 0, 0, 1);
        dueUsed(x, 2, 1, 2);
        dueShare(x, 0, 1, 2);
        due("cuts()", x.cuts(), 1);
        dueCut(x, 0, 0, 1, 2);
        due("run", runOf(x, PLENTY), 1);
        dueBound(x, 0, 0);
        due("steps()", x.steps(), 13);
    }
}
