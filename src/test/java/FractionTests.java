/** Promises 11 to 14: the fractions, where there are none, and the numbers at their edges. */
public final class FractionTests extends Answers {
    private static final int[] NO_NUMBERS = {LEAST, LEAST + 1, -64, -1, MOST - 1, MOST};

    public static void main(String[] args) throws ReflectiveOperationException {
        runTests(FractionTests.class, "promise11", "promise12", "promise13", "promise14");
    }

    /** Six bins, each with a round of its own that costs the most. */
    private static RoundColumns dearest() {
        RoundColumns x = new RoundColumns();
        for (int b = 0; b < 6; b++) {
            x.bin(1000, 1000);
            x.way(0, 1 + b, 1000, 2000);
            x.way(1 + b, 0, 1000, 2000);
        }
        x.vehicle(1000, 3000, 6);
        return x;
    }

    /** All sets of six bins are columns that cost nothing. */
    private static RoundColumns free() {
        RoundColumns x = new RoundColumns();
        for (int b = 0; b < 6; b++) {
            x.bin(0, 0);
        }
        for (int a = 0; a < 7; a++) {
            for (int b = 0; b < 7; b++) {
                x.way(a, b, 0, 0);
            }
        }
        x.vehicle(0, 0, 6);
        return x;
    }

    static void promise11BeforeRunAndAfterAThrowThereIsNone() {
        RoundColumns x = alike(2, 6, 1);
        dueBound(x, 0, 0);
        runOf(x, 3);
        dueBound(x, 0, 0);
    }

    static void promise11TheEmptyTown() {
        RoundColumns x = new RoundColumns();
        runOf(x, 0);
        dueBound(x, 0, 1);
        x.vehicle(6000, 20000, 6);
        runOf(x, 0);
        dueBound(x, 0, 1);
    }

    static void promise11TheLeastAndTheGreatest() {
        RoundColumns x = free();
        runOf(x, 192);
        dueBound(x, 0, 1);
        x = dearest();
        runOf(x, 6);
        dueBound(x, 24000, 1);
    }

    static void promise11WithoutAMixtureThereIsNone() {
        RoundColumns x = alike(2, 6, 1);
        runOf(x, 4);
        dueBound(x, 21, 1);
        x.vehicle(6, 100, 0);
        due("run of no vehicles", runOf(x, 4), 1);
        dueBound(x, 0, 0);
        x.vehicle(6, 100, 1);
        due("run of one", runOf(x, 4), 0);
        dueBound(x, 21, 1);
    }

    static void promise11ABinWithoutAColumn() {
        RoundColumns x = alike(2, 6, 1);
        x.bin(7, 0);
        x.way(0, 3, 0, 0);
        x.way(3, 0, 0, 0);
        due("run of a bin above the load", runOf(x, 4), 1);
        dueBound(x, 0, 0);
        x.vehicle(7, 100, 2);
        due("run of its load", runOf(x, 5), 0);
        dueBound(x, 21, 1);
    }

    static void promise11ABinWithBarredColumnsOnly() {
        RoundColumns x = lone(2, 0, 0, 2);
        x.branch(0, 1, true);
        due("run", runOf(x, 2), 1);
        dueBound(x, 0, 0);
    }

    static void promise11Parts() {
        RoundColumns x = alike(3, 6, 2);
        runOf(x, PLENTY);
        due("bound(0)", x.bound(0), 63);
        due("bound(1)", x.bound(1), 2);
        for (int part : NO_PARTS) {
            due("bound(" + part + ")", x.bound(part), 0);
        }
    }

    static void promise11AThrowKeepsIt() {
        RoundColumns x = alike(3, 6, 2);
        runOf(x, PLENTY);
        x.vehicle(9, 100, 2);
        due("run(11)", runOf(x, 11), THREW);
        dueBound(x, 63, 2);
        due("run(12)", runOf(x, 12), 0);
        dueBound(x, 22, 1);
    }

    static void promise12BeforeRunAndAfterAThrowThereIsNone() {
        RoundColumns x = alike(2, 6, 1);
        dueDual(x, 0, 0, 0);
        runOf(x, 3);
        dueDual(x, 0, 0, 0);
        dueDual(x, 1, 0, 0);
    }

    static void promise12TheFirstAndTheLastBin() {
        RoundColumns x = alike(6, 15, 2);
        runOf(x, PLENTY);
        dueDual(x, -1, 0, 0);
        dueDual(x, 0, 24, 5);
        dueDual(x, 5, 24, 5);
        dueDual(x, 6, 0, 0);
        for (int number : NO_NUMBERS) {
            dueDual(x, number, 0, 0);
        }
        dueDual(x, 32, 0, 0);
    }

    static void promise12FewerBinsThanSix() {
        RoundColumns x = alike(2, 6, 1);
        runOf(x, PLENTY);
        dueDual(x, 1, 1, 1);
        dueDual(x, 2, 0, 0);
        dueDual(x, 5, 0, 0);
    }

    static void promise12TheOnlyBinCostsAllOfIt() {
        RoundColumns x = alike(1, 3, 1);
        runOf(x, 1);
        dueDual(x, 0, 20, 1);
        dueDual(x, 1, 0, 0);
    }

    static void promise12TheEmptyTownHasNone() {
        RoundColumns x = new RoundColumns();
        runOf(x, 0);
        dueDual(x, 0, 0, 0);
    }

    static void promise12TheGreatest() {
        RoundColumns x = dearest();
        runOf(x, 6);
        for (int b = 0; b < 6; b++) {
            dueDual(x, b, 4000, 1);
        }
    }

    static void promise12MayBe0() {
        RoundColumns x = free();
        runOf(x, 192);
        for (int b = 0; b < 6; b++) {
            dueDual(x, b, 0, 1);
        }
    }

    static void promise12MayBeBelow0() {
        // A round of both that costs nothing, and of 1 alone that costs the most.
        RoundColumns x = new RoundColumns();
        x.bin(0, 0);
        x.bin(0, 0);
        x.way(0, 1, 0, 0);
        x.way(1, 2, 0, 0);
        x.way(2, 0, 0, 0);
        x.way(0, 2, 0, 2000);
        x.vehicle(0, 0, 1);
        due("run", runOf(x, 3), 0);
        dueBound(x, 0, 1);
        dueDual(x, 0, -2000, 1);
        x.way(1, 0, 0, 0);
        runOf(x, 3);
        dueDual(x, 1, 0, 1);
    }

    static void promise12InLowestTerms() {
        // Rounds of up to s of n bins: the bound of n less that of one fewer.
        long[][] cases = {{3, 2, 21, 2}, {4, 3, 22, 3}, {5, 4, 23, 4}, {6, 5, 24, 5},
            {4, 2, 21, 2}, {6, 3, 22, 3}, {6, 4, 23, 4}, {6, 1, 20, 1}, {6, 6, 1, 1}};
        for (long[] row : cases) {
            RoundColumns x = alike((int) row[0], 3 * row[1], 6);
            runOf(x, PLENTY);
            dueDual(x, (int) row[0] - 1, row[2], row[3]);
        }
    }

    static void promise12WithoutAMixtureOfAllThereIsNone() {
        // There is one without 1, which has no way, but none with it.
        RoundColumns x = lone(1, 0, 0, 6);
        x.bin(0, 0);
        due("run", runOf(x, 9), 1);
        dueDual(x, 0, 0, 0);
        dueDual(x, 1, 0, 0);
    }

    static void promise12WithoutAMixtureOfTheOthersThereIsNone() {
        // 1 can be reached by 0 only.
        RoundColumns x = new RoundColumns();
        x.bin(0, 0);
        x.bin(0, 0);
        x.way(0, 1, 0, 3);
        x.way(1, 2, 0, 4);
        x.way(1, 0, 0, 5);
        x.way(2, 0, 0, 6);
        x.vehicle(0, 0, 1);
        due("run", runOf(x, 9), 0);
        dueDual(x, 0, 0, 0);
        dueDual(x, 1, 5, 1);
    }

    static void promise12VehiclesAreAsManyWithoutABin() {
        // Lone bins need a vehicle each; with one fewer there is no mixture of all.
        RoundColumns x = lone(3, 0, 0, 3);
        runOf(x, 9);
        dueDual(x, 2, 1, 1);
        x.vehicle(0, 0, 2);
        due("run of two", runOf(x, 9), 1);
        dueDual(x, 2, 0, 0);
        // With ways of 50 two vehicles do, and without a bin they do without such a way.
        for (int a = 1; a < 4; a++) {
            for (int b = 1; b < 4; b++) {
                x.way(a, b, 0, 50);
            }
        }
        due("run of two", runOf(x, 99), 0);
        dueBound(x, 52, 1);
        dueDual(x, 2, 50, 1);
    }

    static void promise12ColumnsAreBarredWithoutABinToo() {
        RoundColumns x = alike(3, 9, 3);
        x.branch(0, 1, true);
        runOf(x, PLENTY);
        dueDual(x, 0, 0, 0);
        dueDual(x, 1, 0, 0);
        dueDual(x, 2, 1, 1);
        x.branch(0, 1, false);
        runOf(x, PLENTY);
        // 41; without 0 or 1 the others go in one round, without 2 they go in two.
        dueDual(x, 0, 20, 1);
        dueDual(x, 1, 20, 1);
        dueDual(x, 2, 1, 1);
    }

    static void promise12Parts() {
        RoundColumns x = alike(3, 6, 2);
        runOf(x, PLENTY);
        for (int part : NO_PARTS) {
            due("dual(0, " + part + ")", x.dual(0, part), 0);
        }
        due("dual(0, 1)", x.dual(0, 1), 2);
        due("dual(0, 0)", x.dual(0, 0), 21);
    }

    static void promise12WhatIsToldAfterRunDoesNotCount() {
        RoundColumns x = alike(3, 6, 2);
        runOf(x, PLENTY);
        x.bin(0, 0);
        x.way(0, 4, 0, 0);
        x.way(4, 0, 0, 0);
        x.way(1, 2, 0, 0);
        x.vehicle(6000, 20000, 0);
        x.branch(0, 1, false);
        due("run(0)", runOf(x, 0), THREW);
        for (int b = 0; b < 3; b++) {
            dueDual(x, b, 21, 2);
        }
        dueDual(x, 3, 0, 0);
    }

    static void promise13BeforeRunAndAfterAThrowThereIsNone() {
        RoundColumns x = alike(2, 6, 1);
        dueUsed(x, 0, 0, 0);
        runOf(x, 3);
        dueUsed(x, 0, 0, 0);
    }

    static void promise13TheFirstAndTheLastColumn() {
        RoundColumns x = free();
        runOf(x, 192);
        dueUsed(x, -1, 0, 0);
        dueUsed(x, 0, 1, 1);
        dueUsed(x, 62, 1, 1);
        dueUsed(x, 63, 0, 0);
        for (int number : NO_NUMBERS) {
            dueUsed(x, number, 0, 0);
        }
    }

    static void promise13FewerColumnsThan63() {
        RoundColumns x = alike(2, 6, 1);
        runOf(x, PLENTY);
        dueUsed(x, 2, 1, 1);
        dueUsed(x, 3, 0, 0);
        x.vehicle(0, 0, 0);
        runOf(x, PLENTY);
        dueUsed(x, 0, 0, 0);
    }

    static void promise13TheEmptyTownHasNone() {
        RoundColumns x = new RoundColumns();
        runOf(x, 0);
        dueUsed(x, 0, 0, 0);
    }

    static void promise13WholeForEachThatCanBe() {
        RoundColumns x = free();
        runOf(x, 192);
        for (int k = 0; k < 63; k++) {
            dueUsed(x, k, 1, 1);
        }
    }

    static void promise13LessWithFewerVehicles() {
        // One vehicle must serve all six: no other column is any part of it.
        RoundColumns x = free();
        x.vehicle(0, 0, 1);
        runOf(x, 192);
        for (int k = 0; k < 62; k++) {
            dueUsed(x, k, 0, 1);
        }
        dueUsed(x, 62, 1, 1);
    }

    static void promise13InParts() {
        // All sets of all but one bin, alike: the only mixture that costs the bound.
        for (int bins = 3; bins <= 6; bins++) {
            RoundColumns x = alike(bins, 3 * (bins - 1), 2);
            runOf(x, PLENTY);
            int last = (1 << bins) - 3;
            dueUsed(x, last, 1, bins - 1);
            dueUsed(x, (1 << bins - 1) - 2, 1, bins - 1);
            dueUsed(x, 0, 0, 1);
            dueUsed(x, last + 1, 0, 0);
        }
    }

    static void promise13TheGreatestOfSeveralMixtures() {
        // Five bins by two: a pair and halves of the other three, or halves of all five.
        RoundColumns x = alike(5, 6, 3);
        runOf(x, PLENTY);
        dueBound(x, 105, 2);
        int[] pairs = {2, 4, 5, 7, 8, 9, 11, 12, 13, 14};
        for (int k : pairs) {
            due("column(" + k + ", 1) is there", x.column(k, 1) > 0, true);
            dueUsed(x, k, 1, 1);
        }
    }

    static void promise13DearerColumnsAreNoneOfIt() {
        RoundColumns x = lone(2, 0, 0, 2);
        x.way(1, 2, 0, 2);
        runOf(x, 9);
        // Both in one round cost 3, alone 1 each.
        dueUsed(x, 0, 1, 1);
        dueUsed(x, 1, 1, 1);
        dueUsed(x, 2, 0, 1);
        x.way(1, 2, 0, 1);
        runOf(x, 9);
        dueUsed(x, 0, 1, 1);
        dueUsed(x, 2, 1, 1);
        x.way(1, 2, 0, 0);
        runOf(x, 9);
        dueUsed(x, 0, 0, 1);
        dueUsed(x, 2, 1, 1);
    }

    static void promise13WithoutAMixtureThereIsNone() {
        RoundColumns x = alike(2, 6, 0);
        due("run", runOf(x, PLENTY), 1);
        for (int k = 0; k < 3; k++) {
            dueUsed(x, k, 0, 0);
        }
    }

    static void promise13BarredThereIsNone() {
        RoundColumns x = alike(2, 6, 2);
        x.branch(0, 1, false);
        runOf(x, PLENTY);
        dueUsed(x, 0, 1, 1);
        dueUsed(x, 2, 0, 0);
        x.branch(0, 1, true);
        runOf(x, PLENTY);
        dueUsed(x, 0, 0, 0);
        dueUsed(x, 1, 0, 0);
        dueUsed(x, 2, 1, 1);
        x.clear();
        runOf(x, PLENTY);
        dueUsed(x, 0, 0, 1);
    }

    static void promise13Parts() {
        RoundColumns x = alike(3, 6, 2);
        runOf(x, PLENTY);
        for (int part : NO_PARTS) {
            due("used(2, " + part + ")", x.used(2, part), 0);
        }
        due("used(2, 1)", x.used(2, 1), 2);
        due("used(2, 0)", x.used(2, 0), 1);
    }

    static void promise13WhatIsToldAfterRunDoesNotCount() {
        RoundColumns x = alike(3, 6, 2);
        runOf(x, PLENTY);
        x.way(0, 1, 0, 2000);
        x.vehicle(3, 20000, 0);
        x.branch(0, 1, false);
        due("run(0)", runOf(x, 0), THREW);
        dueUsed(x, 2, 1, 2);
        dueUsed(x, 0, 0, 1);
    }

    static void promise14BeforeRunAndAfterAThrowThereIsNone() {
        RoundColumns x = alike(2, 6, 1);
        dueShare(x, 0, 0, 0);
        runOf(x, 3);
        dueShare(x, 0, 0, 0);
    }

    static void promise14ALoadOf0HasNone() {
        RoundColumns x = free();
        runOf(x, 192);
        due("columns()", x.columns(), 63);
        dueShare(x, 0, 0, 0);
        dueShare(x, 62, 0, 0);
    }

    static void promise14ALoadOf0HasNoneAfterAnother() {
        RoundColumns x = lone(1, 3, 3, 1);
        x.bin(0, 0);
        x.way(0, 2, 0, 0);
        x.way(2, 0, 0, 0);
        runOf(x, 9);
        dueShare(x, 0, 1, 1);
        x.vehicle(0, 0, 1);
        dueShare(x, 0, 1, 1);
        runOf(x, 9);
        due("columns()", x.columns(), 1);
        dueShare(x, 0, 0, 0);
    }

    static void promise14NoKilogramsOfALoadOf1() {
        RoundColumns x = free();
        x.vehicle(1, 0, 6);
        runOf(x, 192);
        dueShare(x, 0, 0, 1);
        dueShare(x, 62, 0, 1);
    }

    static void promise14TheLeastAndTheGreatest() {
        long[][] cases = {{1, 6000, 1, 6000}, {1000, 6000, 1, 6}, {999, 6000, 333, 2000},
            {1000, 1000, 1, 1}, {999, 1000, 999, 1000}, {1, 1, 1, 1}, {0, 6000, 0, 1},
            {1000, 5999, 1000, 5999}, {6, 4, 0, 0}};
        for (long[] row : cases) {
            RoundColumns x = lone(1, row[0], row[1], 1);
            runOf(x, 1);
            dueShare(x, 0, row[2], row[3]);
        }
    }

    static void promise14TheFirstAndTheLastColumn() {
        RoundColumns x = alike(6, 18, 1);
        runOf(x, PLENTY);
        dueShare(x, -1, 0, 0);
        dueShare(x, 0, 1, 6);
        dueShare(x, 2, 1, 3);
        dueShare(x, 6, 1, 2);
        dueShare(x, 14, 2, 3);
        dueShare(x, 30, 5, 6);
        dueShare(x, 62, 1, 1);
        dueShare(x, 63, 0, 0);
        for (int number : NO_NUMBERS) {
            dueShare(x, number, 0, 0);
        }
    }

    static void promise14ColumnsAreNotSets() {
        // Without a column of 0 alone the first column is that of 1.
        RoundColumns x = new RoundColumns();
        x.bin(2, 0);
        x.bin(3, 0);
        x.way(0, 2, 0, 0);
        x.way(2, 0, 0, 0);
        x.way(2, 1, 0, 0);
        x.way(1, 0, 0, 0);
        x.vehicle(7, 0, 1);
        runOf(x, 9);
        due("columns()", x.columns(), 2);
        dueShare(x, 0, 3, 7);
        dueShare(x, 1, 5, 7);
        dueShare(x, 2, 0, 0);
    }

    static void promise14BarredAndWithoutAMixtureToo() {
        RoundColumns x = alike(2, 12, 0);
        x.branch(0, 1, false);
        due("run", runOf(x, PLENTY), 1);
        dueShare(x, 2, 1, 2);
    }

    static void promise14Parts() {
        RoundColumns x = alike(3, 6, 2);
        runOf(x, PLENTY);
        for (int part : NO_PARTS) {
            due("share(0, " + part + ")", x.share(0, part), 0);
        }
        due("share(0, 1)", x.share(0, 1), 2);
        due("share(0, 0)", x.share(0, 0), 1);
    }

    static void promise14WhatIsToldAfterRunDoesNotCount() {
        RoundColumns x = alike(2, 6, 2);
        runOf(x, PLENTY);
        x.vehicle(0, 100, 2);
        dueShare(x, 0, 1, 2);
        x.vehicle(6000, 100, 2);
        x.bin(1000, 0);
        due("run(0)", runOf(x, 0), THREW);
        dueShare(x, 0, 1, 2);
        dueShare(x, 2, 1, 1);
    }
}
