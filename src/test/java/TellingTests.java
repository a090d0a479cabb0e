/** Promises 1 to 6, what is told: the least and greatest numbers taken, and those outside. */
public final class TellingTests extends Answers {
    public static void main(String[] args) throws ReflectiveOperationException {
        runTests(TellingTests.class, "promise01", "promise02", "promise03", "promise04",
                "promise05", "promise06");
    }

    static void promise01NoneIsMinus1() {
        due("NONE", RoundColumns.NONE, -1);
    }

    static void promise01NoBins() {
        RoundColumns x = new RoundColumns();
        due("way(0, 1, 0, 0)", x.way(0, 1, 0, 0), false);
        due("branch(0, 1, true)", x.branch(0, 1, true), false);
        due("the first bin", x.bin(0, 0), 0);
    }

    static void promise01NoWays() {
        RoundColumns x = new RoundColumns();
        for (int b = 0; b < 6; b++) {
            x.bin(0, 0);
        }
        x.vehicle(6000, 20000, 6);
        due("run", runOf(x, 0), 1);
        due("steps()", x.steps(), 0);
    }

    static void promise01NoVehicles() {
        RoundColumns x = new RoundColumns();
        x.bin(0, 0);
        x.way(0, 1, 0, 0);
        x.way(1, 0, 0, 0);
        due("run", runOf(x, 1), 1);
        due("columns()", x.columns(), 1);
        x.vehicle(0, 0, 1);
        due("run of one vehicle", runOf(x, 1), 0);
    }

    static void promise01NoPairs() {
        RoundColumns x = alike(6, 18, 1);
        runOf(x, PLENTY);
        due("columns()", x.columns(), 63);
        for (int k = 0; k < 63; k++) {
            due("the denominator of used " + k, x.used(k, 1), 1);
        }
    }

    static void promise01NothingWasFound() {
        RoundColumns x = new RoundColumns();
        dueNothingFound(x);
        due("labelsClosed()", x.labelsClosed(), false);
    }

    static void promise01NothingWasFoundWhateverIsTold() {
        RoundColumns x = alike(6, 3, 6);
        x.branch(0, 1, true);
        dueNothingFound(x);
        due("labelsClosed()", x.labelsClosed(), false);
    }

    static void promise01AnotherObjectIsNewToo() {
        RoundColumns x = alike(6, 18, 6);
        runOf(x, PLENTY);
        RoundColumns other = new RoundColumns();
        dueNothingFound(other);
        due("labelsClosed()", other.labelsClosed(), false);
        due("its first bin", other.bin(0, 0), 0);
    }

    static void promise02KilogramsFrom0To1000() {
        RoundColumns x = new RoundColumns();
        due("bin(0, 5)", x.bin(0, 5), 0);
        due("bin(1, 5)", x.bin(1, 5), 1);
        due("bin(999, 5)", x.bin(999, 5), 2);
        due("bin(1000, 5)", x.bin(1000, 5), 3);
    }

    static void promise02OtherKilogramsAreRefused() {
        long[] others = {Long.MIN_VALUE, Long.MIN_VALUE + 1000, -WRAPS_TO_0, LEAST, -1000, -1,
            1001, MOST, WRAPS_TO_0, WRAPS_TO_0 + 1000, Long.MAX_VALUE};
        for (long kilograms : others) {
            dueRefused("bin(" + kilograms + ", 5)", -1, x -> x.bin(kilograms, 5));
        }
    }

    static void promise02SecondsFrom0To1000() {
        RoundColumns x = new RoundColumns();
        due("bin(5, 0)", x.bin(5, 0), 0);
        due("bin(5, 1)", x.bin(5, 1), 1);
        due("bin(5, 999)", x.bin(5, 999), 2);
        due("bin(5, 1000)", x.bin(5, 1000), 3);
    }

    static void promise02OtherSecondsAreRefused() {
        int[] others = {LEAST, LEAST + 1000, -1000, -1, 1001, 65536, MOST};
        for (int seconds : others) {
            dueRefused("bin(5, " + seconds + ")", -1, x -> x.bin(5, seconds));
        }
    }

    static void promise02BothLeastAndBothGreatest() {
        RoundColumns x = new RoundColumns();
        due("bin(0, 0)", x.bin(0, 0), 0);
        due("bin(1000, 1000)", x.bin(1000, 1000), 1);
        due("bin(-1, -1)", x.bin(-1, -1), -1);
        due("bin(1001, 1001)", x.bin(1001, 1001), -1);
        due("bin(1000, 0)", x.bin(1000, 0), 2);
        due("bin(0, 1000)", x.bin(0, 1000), 3);
    }

    static void promise02SixBinsAndASeventh() {
        RoundColumns x = new RoundColumns();
        for (int b = 0; b < 6; b++) {
            due("bin", x.bin(1000, 1000), b);
        }
        for (int times = 0; times < 3; times++) {
            due("one too many", x.bin(0, 0), -1);
        }
        due("way(0, 6, 0, 0)", x.way(0, 6, 0, 0), true);
        due("way(0, 7, 0, 0)", x.way(0, 7, 0, 0), false);
    }

    static void promise02ASeventhChangesNoneOfTheSix() {
        RoundColumns x = alike(6, 18, 6);
        due("a seventh bin", x.bin(1000, 1000), -1);
        due("run", runOf(x, 192), 0);
        due("columns()", x.columns(), 63);
        dueBound(x, 25, 1);
        dueShare(x, 0, 1, 6);
        dueShare(x, 31, 1, 6);
        dueShare(x, 62, 1, 1);
    }

    static void promise02ARefusedBinTakesNoNumber() {
        RoundColumns x = new RoundColumns();
        for (int b = 0; b < 6; b++) {
            due("refused", x.bin(1001, 0), -1);
            due("refused", x.bin(0, -1), -1);
            due("bin", x.bin(0, 0), b);
        }
    }

    static void promise02KilogramsAndSecondsAreThoseTold() {
        RoundColumns x = new RoundColumns();
        x.bin(999, 7);
        x.way(0, 1, 0, 0);
        x.way(1, 0, 0, 0);
        x.vehicle(1000, 7, 1);
        due("run", runOf(x, 1), 0);
        dueShare(x, 0, 999, 1000);
        x.vehicle(998, 7, 1);
        due("run of a load of 998", runOf(x, 1), 1);
        x.vehicle(1000, 6, 1);
        due("run of 6 seconds", runOf(x, 1), 1);
    }

    static void promise02ABinAfterRunIsThereForTheNext() {
        RoundColumns x = lone(1, 3, 3, 6);
        due("run", runOf(x, 1), 0);
        due("bin", x.bin(3, 0), 1);
        due("columns()", x.columns(), 1);
        dueBound(x, 1, 1);
        due("run without a way to it", runOf(x, 1), 1);
        x.way(0, 2, 0, 5);
        x.way(2, 0, 0, 5);
        due("run with ways", runOf(x, 2), 0);
        dueBound(x, 11, 1);
    }

    static void promise03SecondsFrom0To1000() {
        RoundColumns x = new RoundColumns();
        x.bin(0, 0);
        x.way(1, 0, 0, 0);
        int[] taken = {0, 1, 999, 1000};
        for (int seconds : taken) {
            due("way(0, 1, " + seconds + ", 5)", x.way(0, 1, seconds, 5), true);
            x.vehicle(0, seconds, 1);
            due("run of just these seconds", runOf(x, 9), 0);
            if (seconds > 0) {
                x.vehicle(0, seconds - 1, 1);
                due("run of a second less", runOf(x, 9), 1);
            }
        }
    }

    static void promise03OtherSecondsAreRefused() {
        int[] others = {LEAST, LEAST + 1000, -1000, -1, 1001, 65536, MOST};
        for (int seconds : others) {
            dueFalse("way(0, 1, " + seconds + ", 5)", x -> x.way(0, 1, seconds, 5));
        }
    }

    static void promise03CostsFrom0To2000() {
        RoundColumns x = new RoundColumns();
        x.bin(0, 0);
        x.way(1, 0, 0, 0);
        x.vehicle(0, 5, 1);
        long[] taken = {0, 1, 1999, 2000};
        for (long cost : taken) {
            due("way(0, 1, 5, " + cost + ")", x.way(0, 1, 5, cost), true);
            runOf(x, 9);
            dueBound(x, cost, 1);
        }
    }

    static void promise03OtherCostsAreRefused() {
        long[] others = {Long.MIN_VALUE, Long.MIN_VALUE + 2000, -WRAPS_TO_0, LEAST, -2000, -1,
            2001, MOST, WRAPS_TO_0, WRAPS_TO_0 + 2000, Long.MAX_VALUE};
        for (long cost : others) {
            dueFalse("way(0, 1, 1, " + cost + ")", x -> x.way(0, 1, 1, cost));
        }
    }

    static void promise03PlacesFrom0ToTheNumberOfBins() {
        RoundColumns x = new RoundColumns();
        for (int bins = 0; bins <= 6; bins++) {
            for (int a = 0; a <= 7; a++) {
                for (int b = 0; b <= 7; b++) {
                    due(bins + " bins: way(" + a + ", " + b + ", 1, 1)", x.way(a, b, 1, 1),
                            a <= bins && b <= bins && a != b);
                }
            }
            x.bin(0, 0);
        }
    }

    static void promise03OtherPlacesAreRefused() {
        int[] others = {LEAST, LEAST + 1, -32, -7, -1, 4, 5, 6, 7, 8, 32, 33, MOST - 1, MOST};
        for (int place : others) {
            dueFalse("way(0, " + place + ", 1, 1)", x -> x.way(0, place, 1, 1));
            dueFalse("way(" + place + ", 0, 1, 1)", x -> x.way(place, 0, 1, 1));
            dueFalse("way(" + place + ", 1, 1, 1)", x -> x.way(place, 1, 1, 1));
            dueFalse("way of " + place + " to itself", x -> x.way(place, place, 1, 1));
        }
    }

    static void promise03FromAPlaceToItselfIsRefused() {
        for (int place = 0; place < 4; place++) {
            int same = place;
            dueFalse("way of " + place + " to itself", x -> x.way(same, same, 0, 0));
        }
    }

    static void promise03ToldAgainItBecomesSo() {
        RoundColumns x = lone(1, 0, 0, 1);
        x.way(0, 1, 1000, 2000);
        x.vehicle(0, 1000, 1);
        due("run", runOf(x, 9), 0);
        dueBound(x, 2000, 1);
        due("the same again", x.way(0, 1, 1000, 2000), true);
        runOf(x, 9);
        dueBound(x, 2000, 1);
        due("shorter and cheaper", x.way(0, 1, 0, 0), true);
        x.vehicle(0, 0, 1);
        due("run of 0 seconds", runOf(x, 9), 0);
        dueBound(x, 0, 1);
    }

    static void promise03ItIsNotTheWayBack() {
        RoundColumns x = lone(1, 0, 0, 1);
        x.way(0, 1, 0, 30);
        x.way(1, 0, 0, 400);
        runOf(x, 9);
        dueBound(x, 430, 1);
        x.way(1, 0, 0, 5);
        runOf(x, 9);
        dueBound(x, 35, 1);
    }

    static void promise03AWayToABinToComeIsNotKept() {
        RoundColumns x = lone(1, 0, 0, 2);
        due("way(0, 2, 0, 0)", x.way(0, 2, 0, 0), false);
        due("way(2, 0, 0, 0)", x.way(2, 0, 0, 0), false);
        x.bin(0, 0);
        due("run", runOf(x, 9), 1);
        due("steps()", x.steps(), 1);
        due("way(0, 2, 0, 0)", x.way(0, 2, 0, 0), true);
        due("way(2, 0, 0, 0)", x.way(2, 0, 0, 0), true);
        due("run", runOf(x, 9), 0);
    }

    static void promise03AWayAfterRunIsThereForTheNext() {
        RoundColumns x = lone(2, 0, 0, 1);
        due("run of one vehicle for two rounds", runOf(x, 9), 1);
        x.way(1, 2, 0, 0);
        due("columns()", x.columns(), 2);
        dueBound(x, 0, 0);
        due("run", runOf(x, 9), 0);
        due("columns()", x.columns(), 3);
        dueBound(x, 1, 1);
    }

    static void promise04LoadFrom0To6000() {
        long[] taken = {0, 1, 5999, 6000};
        for (long load : taken) {
            RoundColumns x = alike(2, 6, 2);
            due("vehicle(" + load + ", 100, 2)", x.vehicle(load, 100, 2), true);
            due("run", runOf(x, 9), load < 6 ? 1 : 0);
        }
    }

    static void promise04TheGreatestLoadIsThatOfSixFullBins() {
        RoundColumns x = lone(6, 1000, 6000, 6);
        for (int b = 1; b < 6; b++) {
            x.way(b, b + 1, 0, 0);
        }
        runOf(x, 192);
        due("columns() of all in a row", x.columns(), 21);
        x.vehicle(5999, 0, 6);
        runOf(x, 192);
        due("columns() of a kilogram less", x.columns(), 20);
    }

    static void promise04OtherLoadsAreRefused() {
        long[] others = {Long.MIN_VALUE, Long.MIN_VALUE + 6000, -WRAPS_TO_0, LEAST, -6000, -1,
            6001, MOST, WRAPS_TO_0, WRAPS_TO_0 + 5, Long.MAX_VALUE};
        for (long load : others) {
            dueFalse("vehicle(" + load + ", 5, 1)", x -> x.vehicle(load, 5, 1));
        }
    }

    static void promise04SecondsFrom0To20000() {
        int[] taken = {0, 1, 2, 3, 19999, 20000};
        for (int seconds : taken) {
            RoundColumns x = alike(1, 3, 1);
            due("vehicle(3, " + seconds + ", 1)", x.vehicle(3, seconds, 1), true);
            due("run", runOf(x, 9), seconds < 2 ? 1 : 0);
        }
    }

    static void promise04OtherSecondsAreRefused() {
        int[] others = {LEAST, LEAST + 20000, -20000, -1, 20001, 65536, MOST};
        for (int seconds : others) {
            dueFalse("vehicle(5, " + seconds + ", 1)", x -> x.vehicle(5, seconds, 1));
        }
    }

    static void promise04From0To6Vehicles() {
        for (int n = 0; n <= 6; n++) {
            RoundColumns x = lone(6, 0, 0, 0);
            due("vehicle(0, 0, " + n + ")", x.vehicle(0, 0, n), true);
            due("run", runOf(x, 9), n < 6 ? 1 : 0);
        }
    }

    static void promise04OtherNumbersOfVehiclesAreRefused() {
        int[] others = {LEAST, LEAST + 1, -6, -1, 7, 8, 256, MOST};
        for (int n : others) {
            dueFalse("vehicle(5, 5, " + n + ")", x -> x.vehicle(5, 5, n));
        }
    }

    static void promise04AllLeastAndAllGreatest() {
        RoundColumns x = lone(1, 0, 0, 0);
        due("vehicle(0, 0, 0)", x.vehicle(0, 0, 0), true);
        due("run", runOf(x, 9), 1);
        due("columns()", x.columns(), 1);
        due("vehicle(6000, 20000, 6)", x.vehicle(6000, 20000, 6), true);
        due("run", runOf(x, 9), 0);
        due("vehicle(-1, -1, -1)", x.vehicle(-1, -1, -1), false);
        due("vehicle(6001, 20001, 7)", x.vehicle(6001, 20001, 7), false);
        due("run", runOf(x, 9), 0);
    }

    static void promise04VehiclesAfterRunAreThereForTheNext() {
        RoundColumns x = lone(2, 3, 3, 2);
        due("run", runOf(x, 9), 0);
        x.vehicle(6, 0, 1);
        dueShare(x, 0, 1, 1);
        dueBound(x, 2, 1);
        due("run of one", runOf(x, 9), 1);
        dueShare(x, 0, 1, 2);
        dueBound(x, 0, 0);
    }

    static void promise05BinsFrom0ToTheLast() {
        RoundColumns x = new RoundColumns();
        for (int bins = 0; bins <= 6; bins++) {
            for (int a = 0; a <= 6; a++) {
                for (int b = 0; b <= 6; b++) {
                    due(bins + " bins: branch(" + a + ", " + b + ", false)",
                            x.branch(a, b, false), a < bins && b < bins && a != b);
                }
            }
            x.bin(0, 0);
        }
    }

    static void promise05OtherBinsAreRefused() {
        int[] others = {LEAST, LEAST + 1, -32, -31, -1, 3, 4, 6, 31, 32, 33, 34, 64, MOST};
        for (int bin : others) {
            dueFalse("branch(0, " + bin + ", true)", x -> x.branch(0, bin, true));
            dueFalse("branch(" + bin + ", 1, false)", x -> x.branch(bin, 1, false));
            dueFalse("branch of " + bin + " and itself", x -> x.branch(bin, bin, true));
        }
    }

    static void promise05ABinAndItselfAreRefused() {
        for (int bin = 0; bin < 3; bin++) {
            int same = bin;
            dueFalse("branch of " + bin + " and itself", x -> x.branch(same, same, true));
            dueFalse("branch of " + bin + " from itself", x -> x.branch(same, same, false));
        }
    }

    static void promise05TheLastTwoOfSix() {
        RoundColumns x = alike(6, 18, 6);
        due("branch(4, 5, false)", x.branch(4, 5, false), true);
        due("run", runOf(x, 192), 0);
        dueBound(x, 44, 1);
        due("branch(5, 4, true)", x.branch(5, 4, true), true);
        due("run", runOf(x, 192), 0);
        dueBound(x, 25, 1);
        dueUsed(x, 15, 0, 0);
        dueUsed(x, 31, 0, 0);
        dueUsed(x, 47, 0, 1);
        dueUsed(x, 62, 1, 1);
    }

    static void promise05ToldTwiceIsAsToldOnce() {
        RoundColumns x = alike(3, 9, 3);
        for (int times = 0; times < 2; times++) {
            due("branch(0, 1, false)", x.branch(0, 1, false), true);
            due("branch(1, 0, false)", x.branch(1, 0, false), true);
        }
        runOf(x, PLENTY);
        dueBound(x, 41, 1);
        for (int times = 0; times < 2; times++) {
            due("branch(1, 0, true)", x.branch(1, 0, true), true);
            due("branch(0, 1, true)", x.branch(0, 1, true), true);
        }
        runOf(x, PLENTY);
        dueBound(x, 22, 1);
        dueUsed(x, 0, 0, 0);
    }

    static void promise05WhatWasToldBeforeGoes() {
        boolean[] together = {true, false};
        for (boolean last : together) {
            RoundColumns x = alike(2, 6, 2);
            x.branch(0, 1, !last);
            x.branch(1, 0, last);
            due("run", runOf(x, PLENTY), 0);
            dueBound(x, last ? 21 : 40, 1);
            dueUsed(x, 0, last ? 0 : 1, last ? 0 : 1);
            dueUsed(x, 2, last ? 1 : 0, last ? 1 : 0);
        }
    }

    static void promise05WhatWasToldOfOthersStays() {
        RoundColumns x = alike(4, 12, 4);
        x.branch(0, 1, true);
        x.branch(2, 3, true);
        x.branch(1, 2, false);
        x.branch(0, 3, true);
        // 0, 1 and 3 go together and so do 2 and 3, but 1 and 2 do not.
        due("run", runOf(x, PLENTY), 1);
        x.branch(0, 3, false);
        due("run of 0 with 1 and 2 with 3", runOf(x, PLENTY), 0);
        dueBound(x, 42, 1);
        dueUsed(x, 2, 1, 1);
        dueUsed(x, 11, 1, 1);
    }

    static void promise05OneBinInSeveralPairs() {
        int[][] orders = {{0, 1, 0, 2}, {1, 0, 2, 0}, {0, 1, 2, 0}, {1, 0, 0, 2}};
        for (int[] order : orders) {
            RoundColumns x = alike(3, 9, 3);
            x.branch(order[0], order[1], true);
            x.branch(order[2], order[3], true);
            runOf(x, PLENTY);
            for (int k = 0; k < 6; k++) {
                dueUsed(x, k, 0, 0);
            }
            dueUsed(x, 6, 1, 1);
            x.branch(order[0], order[1], false);
            x.branch(order[2], order[3], false);
            runOf(x, PLENTY);
            // 0 goes alone, 1 with 2.
            dueBound(x, 41, 1);
            dueUsed(x, 0, 1, 1);
            dueUsed(x, 2, 0, 0);
            dueUsed(x, 3, 0, 1);
            dueUsed(x, 4, 0, 0);
            dueUsed(x, 5, 1, 1);
            dueUsed(x, 6, 0, 0);
        }
    }

    static void promise05TwoThatGoTogetherButHaveNoColumn() {
        RoundColumns x = lone(2, 0, 0, 2);
        due("run", runOf(x, 9), 0);
        x.branch(0, 1, true);
        due("run", runOf(x, 9), 1);
        due("columns()", x.columns(), 2);
        dueUsed(x, 0, 0, 0);
    }

    static void promise05AllPairsApart() {
        RoundColumns x = alike(6, 18, 6);
        for (int a = 0; a < 6; a++) {
            for (int b = 0; b < a; b++) {
                x.branch(a, b, false);
            }
        }
        due("run", runOf(x, 192), 0);
        due("columns()", x.columns(), 63);
        dueBound(x, 120, 1);
        dueUsed(x, 31, 1, 1);
        dueUsed(x, 62, 0, 0);
        x.vehicle(18, 100, 5);
        due("run of five", runOf(x, 192), 1);
    }

    static void promise05AllPairsTogether() {
        RoundColumns x = alike(6, 18, 1);
        for (int a = 0; a < 6; a++) {
            for (int b = 0; b < a; b++) {
                x.branch(a, b, true);
            }
        }
        due("run", runOf(x, 192), 0);
        dueBound(x, 25, 1);
        dueUsed(x, 62, 1, 1);
        for (int k = 0; k < 62; k++) {
            due("the denominator of used " + k, x.used(k, 1), 0);
        }
    }

    static void promise05PairsAfterRunAreThereForTheNext() {
        RoundColumns x = alike(2, 6, 2);
        runOf(x, PLENTY);
        x.branch(0, 1, false);
        dueBound(x, 21, 1);
        dueUsed(x, 2, 1, 1);
        runOf(x, PLENTY);
        dueBound(x, 40, 1);
        dueUsed(x, 2, 0, 0);
    }

    static void promise05PairsStayFromRunToRunAndForNewBins() {
        RoundColumns x = alike(2, 9, 3);
        x.branch(0, 1, false);
        runOf(x, PLENTY);
        dueBound(x, 40, 1);
        x.bin(3, 0);
        x.way(0, 3, 1, 10);
        x.way(3, 0, 1, 10);
        runOf(x, PLENTY);
        dueBound(x, 60, 1);
    }

    static void promise06WithoutPairsItChangesNothing() {
        RoundColumns x = new RoundColumns();
        x.clear();
        due("run", runOf(x, 0), 0);
        x = alike(2, 6, 2);
        x.clear();
        due("run", runOf(x, PLENTY), 0);
        dueBound(x, 21, 1);
    }

    static void promise06NoPairGoesTogether() {
        RoundColumns x = lone(6, 0, 0, 6);
        for (int a = 0; a < 6; a++) {
            for (int b = 0; b < a; b++) {
                x.branch(a, b, true);
            }
        }
        due("run", runOf(x, 9), 1);
        x.clear();
        due("run", runOf(x, 9), 0);
        dueBound(x, 6, 1);
    }

    static void promise06NoPairGoesApart() {
        RoundColumns x = alike(6, 18, 6);
        for (int a = 0; a < 6; a++) {
            for (int b = 0; b < a; b++) {
                x.branch(a, b, false);
            }
        }
        runOf(x, 192);
        dueBound(x, 120, 1);
        x.clear();
        runOf(x, 192);
        dueBound(x, 25, 1);
        dueUsed(x, 62, 1, 1);
    }

    static void promise06WhatWasFoundStays() {
        RoundColumns x = alike(2, 6, 2);
        x.branch(0, 1, false);
        runOf(x, PLENTY);
        x.clear();
        dueBound(x, 40, 1);
        dueUsed(x, 2, 0, 0);
        dueUsed(x, 0, 1, 1);
        dueDual(x, 0, 20, 1);
    }

    static void promise06NothingElseIsForgotten() {
        RoundColumns x = changed();
        RoundColumns twin = changed();
        x.clear();
        x.branch(0, 2, false);
        dueSame("after clear() and the pair again", x, twin);
        runOf(x, PLENTY);
        runOf(twin, PLENTY);
        dueSame("after a run", x, twin);
    }

    static void promise06TwiceIsAsOnce() {
        RoundColumns x = alike(2, 6, 2);
        x.branch(0, 1, false);
        x.clear();
        x.clear();
        runOf(x, PLENTY);
        dueBound(x, 21, 1);
    }

    static void promise06PairsMayBeToldAnew() {
        RoundColumns x = alike(3, 9, 3);
        x.branch(0, 1, true);
        x.clear();
        x.branch(1, 2, false);
        due("run", runOf(x, PLENTY), 0);
        dueBound(x, 41, 1);
        dueUsed(x, 0, 0, 1);
        dueUsed(x, 1, 1, 1);
        dueUsed(x, 6, 0, 0);
    }
}
