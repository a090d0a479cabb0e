/** The sentences of "Terms", each with the cases at its boundary. */
public final class TermsTests extends Answers {
    public static void main(String[] args) throws ReflectiveOperationException {
        runTests(TermsTests.class, "termsBins", "termsPlaces", "termsWay", "termsVehicles",
                "termsRow", "termsRound", "termsCost", "termsLabels", "termsColumn",
                "termsTogether", "termsApart", "termsMixture", "termsBound", "termsRefused",
                "termsThrow", "termsFound", "termsFractions");
    }

    /** One bin, both its ways, a vehicle. */
    private static RoundColumns single(long kilograms, int binSeconds, int there, int back,
            long load, int seconds) {
        RoundColumns x = new RoundColumns();
        x.bin(kilograms, binSeconds);
        x.way(0, 1, there, 1);
        x.way(1, 0, back, 1);
        x.vehicle(load, seconds, 1);
        runOf(x, PLENTY);
        return x;
    }

    static void termsBinsAreNumberedFrom0On6AtMost() {
        RoundColumns x = new RoundColumns();
        for (int b = 0; b < 6; b++) {
            due("bin", x.bin(0, 0), b);
        }
        due("a seventh bin", x.bin(0, 0), -1);
    }

    static void termsPlacesAreOneAboveTheBin() {
        RoundColumns x = new RoundColumns();
        x.bin(0, 0);
        x.bin(0, 0);
        x.way(0, 2, 0, 0);
        x.way(2, 0, 0, 0);
        runOf(x, PLENTY);
        due("columns()", x.columns(), 1);
        dueColumn(x, 0, 1);
    }

    static void termsPlacesEndWith6ForTheSixthBin() {
        RoundColumns x = new RoundColumns();
        for (int b = 0; b < 6; b++) {
            x.bin(0, 0);
        }
        x.way(0, 6, 0, 0);
        x.way(6, 0, 0, 0);
        runOf(x, PLENTY);
        due("columns()", x.columns(), 1);
        dueColumn(x, 0, 5);
    }

    static void termsWayIsThereOnlyIfTold() {
        RoundColumns x = new RoundColumns();
        x.bin(0, 0);
        x.vehicle(6000, 20000, 6);
        due("run without ways", runOf(x, PLENTY), 1);
        due("steps()", x.steps(), 0);
        due("columns()", x.columns(), 0);
    }

    static void termsWayBackIsAnother() {
        RoundColumns there = new RoundColumns();
        there.bin(0, 0);
        there.way(0, 1, 0, 0);
        there.vehicle(0, 0, 1);
        due("run with a way there", runOf(there, PLENTY), 1);
        due("steps()", there.steps(), 1);
        due("columns()", there.columns(), 0);
        RoundColumns back = new RoundColumns();
        back.bin(0, 0);
        back.way(1, 0, 0, 0);
        back.vehicle(0, 0, 1);
        due("run with a way back", runOf(back, PLENTY), 1);
        due("steps()", back.steps(), 0);
    }

    static void termsWayOf0SecondsAnd0CostIsAWay() {
        RoundColumns x = single(0, 0, 0, 0, 0, 0);
        due("columns()", x.columns(), 1);
    }

    static void termsVehiclesHaveALoadOf0AtFirst() {
        RoundColumns x = new RoundColumns();
        x.bin(0, 0);
        x.bin(1, 0);
        for (int b = 0; b < 2; b++) {
            x.way(0, 1 + b, 0, 0);
            x.way(1 + b, 0, 0, 0);
        }
        runOf(x, PLENTY);
        due("columns()", x.columns(), 1);
        dueColumn(x, 0, 0);
        dueShare(x, 0, 0, 0);
    }

    static void termsVehiclesHave0SecondsAtFirst() {
        RoundColumns x = new RoundColumns();
        for (int b = 0; b < 4; b++) {
            x.bin(0, b == 1 ? 1 : 0);
            x.way(0, 1 + b, b == 2 ? 1 : 0, 0);
            x.way(1 + b, 0, b == 3 ? 1 : 0, 0);
        }
        runOf(x, PLENTY);
        due("steps()", x.steps(), 2);
        due("columns()", x.columns(), 1);
        dueColumn(x, 0, 0);
    }

    static void termsVehiclesAre0AtFirst() {
        RoundColumns x = new RoundColumns();
        due("run of no bins", runOf(x, PLENTY), 0);
        x.bin(0, 0);
        x.way(0, 1, 0, 0);
        x.way(1, 0, 0, 0);
        due("run of a bin", runOf(x, PLENTY), 1);
        due("columns()", x.columns(), 1);
    }

    static void termsRowHasAtLeastOneBin() {
        RoundColumns x = new RoundColumns();
        x.vehicle(6000, 20000, 6);
        runOf(x, PLENTY);
        due("steps()", x.steps(), 0);
        due("columns()", x.columns(), 0);
    }

    static void termsRowHasNoBinTwice() {
        RoundColumns x = alike(2, 6000, 6);
        runOf(x, PLENTY);
        due("steps()", x.steps(), 4);
        due("columns()", x.columns(), 3);
        dueColumn(x, 2, 0, 1);
    }

    static void termsRowNeedsAWayToItsFirstBin() {
        RoundColumns x = new RoundColumns();
        x.bin(0, 0);
        x.bin(0, 0);
        x.way(0, 1, 0, 0);
        x.way(1, 2, 0, 0);
        x.way(1, 0, 0, 0);
        x.way(2, 0, 0, 0);
        runOf(x, PLENTY);
        // Bin 0, and both with 1 last: 1 can't be the first.
        dueDropped(x, "00");
        due("columns()", x.columns(), 2);
        dueColumn(x, 1, 0, 1);
    }

    static void termsRowHasKilogramsOfAtMostTheLoad() {
        due("1000 kilograms of 1000", single(1000, 0, 0, 0, 1000, 0).steps(), 1);
        due("1000 kilograms of 999", single(1000, 0, 0, 0, 999, 0).steps(), 0);
        due("1 kilogram of 0", single(1, 0, 0, 0, 0, 0).steps(), 0);
        due("0 kilograms of 0", single(0, 0, 0, 0, 0, 0).steps(), 1);
    }

    static void termsRowHasKilogramsOfAllItsBins() {
        RoundColumns x = alike(3, 9, 1);
        runOf(x, PLENTY);
        due("steps() of 9 kilograms of 9", x.steps(), 12);
        x.vehicle(8, 100, 1);
        runOf(x, PLENTY);
        due("steps() of 9 kilograms of 8", x.steps(), 9);
        x.vehicle(5, 100, 1);
        runOf(x, PLENTY);
        due("steps() of 6 kilograms of 5", x.steps(), 3);
        x.vehicle(2, 100, 1);
        runOf(x, PLENTY);
        due("steps() of 3 kilograms of 2", x.steps(), 0);
    }

    static void termsRowHasSecondsOfAtMostTheVehicles() {
        due("2000 seconds of 2000", single(0, 1000, 1000, 0, 0, 2000).steps(), 1);
        due("2000 seconds of 1999", single(0, 1000, 1000, 0, 0, 1999).steps(), 0);
        due("1 second of 0", single(0, 0, 1, 0, 0, 0).steps(), 0);
        due("1 second of a bin of 0", single(0, 1, 0, 0, 0, 0).steps(), 0);
    }

    static void termsRoundHasTheSecondsHomeToo() {
        due("3000 seconds of 3000", single(0, 1000, 1000, 1000, 0, 3000).columns(), 1);
        RoundColumns late = single(0, 1000, 1000, 1000, 0, 2999);
        due("3000 seconds of 2999", late.columns(), 0);
        due("steps() of the row", late.steps(), 1);
    }

    static void termsRoundNeedsAWayHome() {
        RoundColumns x = alike(1, 3, 1);
        RoundColumns y = new RoundColumns();
        y.bin(3, 0);
        y.way(0, 1, 1, 10);
        y.vehicle(3, 100, 1);
        due("run with a way home", runOf(x, PLENTY), 0);
        due("run without", runOf(y, PLENTY), 1);
        due("columns() without", y.columns(), 0);
    }

    static void termsRoundOfAllSixBinsAtTheGreatestNumbers() {
        RoundColumns x = new RoundColumns();
        for (int b = 0; b < 6; b++) {
            x.bin(1000, 1000);
        }
        for (int a = 0; a < 7; a++) {
            for (int b = 0; b < 7; b++) {
                x.way(a, b, 1000, 2000);
            }
        }
        // Seven ways and six bins: 13000 seconds, 6000 kilograms, a cost of 14000.
        x.vehicle(6000, 13000, 1);
        due("run", runOf(x, PLENTY), 0);
        due("columns()", x.columns(), 63);
        dueBound(x, 14000, 1);
        x.vehicle(6000, 12999, 1);
        due("run of a second less", runOf(x, PLENTY), 1);
        due("columns()", x.columns(), 62);
        x.vehicle(5999, 13000, 1);
        due("run of a kilogram less", runOf(x, PLENTY), 1);
        due("columns()", x.columns(), 62);
    }

    static void termsCostIsThatOfEachWayAndHome() {
        RoundColumns x = new RoundColumns();
        x.bin(0, 7);
        x.bin(0, 7);
        x.way(0, 1, 5, 100);
        x.way(1, 2, 5, 20);
        x.way(2, 0, 5, 3);
        x.vehicle(0, 100, 1);
        runOf(x, PLENTY);
        dueBound(x, 123, 1);
    }

    static void termsLabelsAreOrderedBySumsAndThenByLastBins() {
        RoundColumns x = new RoundColumns();
        for (int b = 0; b < 3; b++) {
            x.bin(0, 0);
        }
        for (int a = 0; a < 4; a++) {
            for (int b = 1; b < 4; b++) {
                x.way(a, b, 0, 0);
            }
        }
        x.way(2, 0, 0, 0);
        runOf(x, PLENTY);
        // Only what ends with 1 comes home; the sets are 0, 1, 01, 2, 02, 12 and 012.
        dueDropped(x, "1" + "0" + "10" + "1" + "11" + "01" + "101");
    }

    static void termsLabelsAreOneForAllRowsThatEndAlike() {
        RoundColumns x = alike(4, 12, 1);
        runOf(x, PLENTY);
        // 64 rows, but of each set as many labels as bins.
        due("steps()", x.steps(), 32);
    }

    static void termsColumnHasTheCheapestRound() {
        RoundColumns x = alike(2, 6, 1);
        x.way(0, 2, 1, 9);
        runOf(x, PLENTY);
        dueColumn(x, 2, 1, 0);
        x.way(0, 1, 1, 8);
        runOf(x, PLENTY);
        dueColumn(x, 2, 0, 1);
    }

    static void termsColumnOfTheSameCostHasTheFirstRound() {
        RoundColumns x = alike(6, 18, 1);
        runOf(x, PLENTY);
        dueColumn(x, 62, 0, 1, 2, 3, 4, 5);
        // To go from 4 to 5 is dearer than all else now.
        x.way(5, 6, 1, 2);
        runOf(x, PLENTY);
        dueColumn(x, 62, 0, 1, 2, 3, 5, 4);
        // And from 5 to 4, so that 3 must part them.
        x.way(6, 5, 1, 2);
        runOf(x, PLENTY);
        dueColumn(x, 62, 0, 1, 2, 4, 3, 5);
    }

    static void termsColumnWithTheLesserBinWhereTwoDifferFirst() {
        RoundColumns x = alike(3, 9, 1);
        // 0, 2, 1 and 1, 0, 2 cost 21 and are the cheapest; they differ first in 0 and 1.
        x.way(1, 3, 1, 0);
        x.way(1, 2, 1, 2);
        x.way(2, 3, 1, 2);
        runOf(x, PLENTY);
        dueColumn(x, 6, 0, 2, 1);
    }

    static void termsColumnsAreNumberedBySums() {
        RoundColumns x = alike(3, 6, 1);
        runOf(x, PLENTY);
        dueColumn(x, 0, 0);
        dueColumn(x, 1, 1);
        dueColumn(x, 2, 0, 1);
        dueColumn(x, 3, 2);
        dueColumn(x, 4, 0, 2);
        dueColumn(x, 5, 1, 2);
        due("column(6, 0)", x.column(6, 0), -1);
        // Without 0 alone and 0 with 1 the others move up.
        x.way(1, 0, 100, 0);
        x.way(2, 0, 99, 0);
        runOf(x, PLENTY);
        dueColumn(x, 0, 1);
        dueColumn(x, 1, 2);
        dueColumn(x, 2, 0, 2);
        dueColumn(x, 3, 1, 2);
        due("columns()", x.columns(), 4);
    }

    static void termsTogetherBarsColumnsWithJustOne() {
        RoundColumns x = alike(3, 9, 3);
        x.branch(0, 1, true);
        runOf(x, PLENTY);
        int[] barred = {0, 1, 4, 5};
        for (int k : barred) {
            dueUsed(x, k, 0, 0);
        }
        int[] open = {2, 3};
        for (int k : open) {
            dueUsed(x, k, 0, 1);
        }
        dueUsed(x, 6, 1, 1);
    }

    static void termsApartBarsColumnsWithBoth() {
        RoundColumns x = alike(3, 9, 3);
        x.branch(0, 1, false);
        runOf(x, PLENTY);
        dueUsed(x, 2, 0, 0);
        dueUsed(x, 6, 0, 0);
        // 0 with 2 and 1, or 1 with 2 and 0: 21 and 20.
        dueBound(x, 41, 1);
        int[] some = {0, 1, 4, 5};
        for (int k : some) {
            dueUsed(x, k, 1, 1);
        }
        dueUsed(x, 3, 0, 1);
    }

    static void termsMixtureServesEachBinJustOnce() {
        // Rounds of both bins cost 0 and one of bin 0 alone 1: to serve 0 twice is no way out.
        RoundColumns x = new RoundColumns();
        x.bin(1, 0);
        x.bin(1, 0);
        x.bin(1, 0);
        x.way(0, 1, 0, 0);
        x.way(1, 2, 0, 0);
        x.way(1, 3, 0, 0);
        x.way(2, 0, 0, 0);
        x.way(3, 0, 0, 0);
        x.vehicle(2, 0, 6);
        due("run of 0 with 1 and 0 with 2", runOf(x, PLENTY), 1);
        due("columns()", x.columns(), 2);
        x.way(0, 3, 0, 7);
        due("run with 2 alone", runOf(x, PLENTY), 0);
        dueBound(x, 7, 1);
    }

    static void termsMixtureHasAtMostAsManyAsVehicles() {
        for (int bins = 1; bins <= 6; bins++) {
            RoundColumns x = lone(bins, 0, 0, bins);
            due("run of as many as bins", runOf(x, PLENTY), 0);
            dueBound(x, bins, 1);
            x.vehicle(0, 0, bins - 1);
            due("run of one fewer", runOf(x, PLENTY), 1);
            dueBound(x, 0, 0);
        }
    }

    static void termsMixtureMayLeaveVehiclesIdle() {
        RoundColumns x = alike(3, 9, 6);
        due("run", runOf(x, PLENTY), 0);
        dueBound(x, 22, 1);
    }

    static void termsMixtureCostsMoreWithFewerVehicles() {
        RoundColumns x = lone(3, 0, 0, 6);
        for (int a = 1; a < 4; a++) {
            for (int b = 1; b < 4; b++) {
                x.way(a, b, 0, 50);
            }
        }
        long[] bounds = {3, 52, 101};
        for (int n = 3; n >= 1; n--) {
            x.vehicle(0, 0, n);
            due("run", runOf(x, PLENTY), 0);
            dueBound(x, bounds[3 - n], 1);
        }
        x.vehicle(0, 0, 0);
        due("run of none", runOf(x, PLENTY), 1);
    }

    static void termsMixtureOfPartsTakesPartsOfVehicles() {
        // Three halves of rounds of two, and six fifths of rounds of five.
        RoundColumns three = alike(3, 6, 1);
        due("run of one", runOf(three, PLENTY), 1);
        three.vehicle(6, 100, 2);
        due("run of two", runOf(three, PLENTY), 0);
        RoundColumns six = alike(6, 15, 1);
        due("run of one", runOf(six, PLENTY), 1);
        six.vehicle(15, 100, 2);
        due("run of two", runOf(six, PLENTY), 0);
    }

    static void termsBoundIsTheLeastOfMixtures() {
        // Rounds of up to s of n bins: 19 for each n/s of them, and 1 for each bin.
        long[][] bounds = {{3, 2, 63, 2}, {4, 3, 88, 3}, {5, 4, 115, 4}, {6, 5, 144, 5},
            {5, 2, 105, 2}, {5, 3, 110, 3}, {6, 4, 69, 2}, {6, 3, 44, 1}, {6, 1, 120, 1}};
        for (long[] row : bounds) {
            RoundColumns x = alike((int) row[0], 3 * row[1], 6);
            due("run", runOf(x, PLENTY), 0);
            dueBound(x, row[2], row[3]);
        }
    }

    static void termsRefusedCallsChangeNothing() {
        dueRefused("bin(1001, 5)", -1, x -> x.bin(1001, 5));
        dueRefused("bin(5, 1001)", -1, x -> x.bin(5, 1001));
        dueFalse("way(0, 1, 1001, 1)", x -> x.way(0, 1, 1001, 1));
        dueFalse("way(0, 1, 1, 2001)", x -> x.way(0, 1, 1, 2001));
        dueFalse("way(0, 4, 1, 1)", x -> x.way(0, 4, 1, 1));
        dueFalse("way(4, 0, 1, 1)", x -> x.way(4, 0, 1, 1));
        dueFalse("way(2, 2, 1, 1)", x -> x.way(2, 2, 1, 1));
        dueFalse("vehicle(6001, 1, 1)", x -> x.vehicle(6001, 1, 1));
        dueFalse("vehicle(1, 20001, 1)", x -> x.vehicle(1, 20001, 1));
        dueFalse("vehicle(1, 1, 7)", x -> x.vehicle(1, 1, 7));
        dueFalse("branch(0, 3, true)", x -> x.branch(0, 3, true));
        dueFalse("branch(0, 0, true)", x -> x.branch(0, 0, true));
    }

    static void termsRefusedQuestionsChangeNothing() {
        dueRefused("column(99, 0)", -1, x -> x.column(99, 0));
        dueRefused("column(0, 99)", -1, x -> x.column(0, 99));
        dueRefused("bound(2)", 0, x -> x.bound(2));
        dueRefused("dual(3, 0)", 0, x -> x.dual(3, 0));
        dueRefused("dual(0, 2)", 0, x -> x.dual(0, 2));
        dueRefused("used(99, 0)", 0, x -> x.used(99, 0));
        dueRefused("used(0, 2)", 0, x -> x.used(0, 2));
        dueRefused("share(99, 0)", 0, x -> x.share(99, 0));
        dueRefused("share(0, 2)", 0, x -> x.share(0, 2));
        dueFalse("dropped(99)", x -> x.dropped(99));
        dueRefused("cut(99, 0)", -1, x -> x.cut(99, 0));
        dueRefused("cut(0, 99)", -1, x -> x.cut(0, 99));
    }

    static void termsThrowChangesNothing() {
        dueRefused("run(11) of 12 labels", THREW, x -> runOf(x, 11));
        dueRefused("run(0)", THREW, x -> runOf(x, 0));
        dueRefused("run(-1)", THREW, x -> runOf(x, -1));
        dueRefused("run(least)", THREW, x -> runOf(x, LEAST));
    }

    static void termsThrowTwiceChangesNothing() {
        dueRefused("run(11) twice", 2 * THREW, x -> runOf(x, 11) + runOf(x, 11));
    }

    static void termsThrowAfterAskingChangesNothing() {
        // What is reckoned when it is asked for is the same before and after.
        RoundColumns x = changed();
        due("used(2, 1)", x.used(2, 1), 2);
        due("dual(0, 0)", x.dual(0, 0), 39);
        due("run(11)", runOf(x, 11), THREW);
        due("used(4, 1)", x.used(4, 1), 2);
        due("dual(1, 0)", x.dual(1, 0), 41);
        dueBound(x, 109, 2);
    }

    static void termsFoundStaysUntilTheNextRun() {
        RoundColumns x = changed();
        dueBound(x, 109, 2);
        due("steps()", x.steps(), 9);
        runOf(x, PLENTY);
        dueBound(x, 54, 1);
        due("steps()", x.steps(), 12);
    }

    static void termsFoundStaysWhenAllIsToldAnew() {
        RoundColumns x = changed();
        RoundColumns twin = changed();
        x.bin(9, 9);
        for (int a = 0; a < 5; a++) {
            for (int b = 0; b < 5; b++) {
                twin.way(a, b, 1 + a, 7);
                x.way(a, b, 1 + a, 7);
            }
        }
        x.vehicle(1, 1, 1);
        twin.vehicle(1, 1, 1);
        x.clear();
        x.branch(1, 3, true);
        x.branch(0, 1, false);
        dueSame("after all was told anew", x, twin);
        dueBound(x, 109, 2);
        dueDual(x, 0, 39, 2);
        dueDual(x, 3, 0, 0);
        dueUsed(x, 2, 1, 2);
        dueShare(x, 2, 5, 7);
        dueCut(x, 0, 0, 1, 2);
    }

    static void termsFoundOfAnotherObjectIsItsOwn() {
        RoundColumns x = alike(3, 6, 2);
        RoundColumns other = alike(2, 6, 2);
        runOf(x, PLENTY);
        runOf(other, PLENTY);
        dueBound(x, 63, 2);
        dueUsed(x, 2, 1, 2);
        dueBound(other, 21, 1);
        dueUsed(other, 2, 1, 1);
    }

    static void termsFractionsAreInLowestTerms() {
        // Six bins in rounds of four: 3/2 rounds, 57/2 and 6.
        RoundColumns x = alike(6, 12, 2);
        runOf(x, PLENTY);
        dueBound(x, 69, 2);
        dueShare(x, 0, 1, 4);
        dueShare(x, 2, 1, 2);
        dueShare(x, 6, 3, 4);
        dueShare(x, 14, 1, 1);
    }

    static void termsFractionsOf0AreOver1() {
        RoundColumns x = lone(1, 0, 1, 1);
        x.way(0, 1, 0, 0);
        runOf(x, PLENTY);
        dueBound(x, 0, 1);
        dueDual(x, 0, 0, 1);
        dueUsed(x, 0, 1, 1);
        dueShare(x, 0, 0, 1);
    }

    static void termsFractionsBelow0HaveADenominatorAbove0() {
        RoundColumns x = new RoundColumns();
        for (int b = 0; b < 4; b++) {
            x.bin(0, 0);
        }
        for (int a = 0; a < 5; a++) {
            for (int b = 0; b < 5; b++) {
                x.way(a, b, a == 0 ? 0 : 1, a == 0 || b == 0 ? 10 : 1);
            }
        }
        // Only behind bin 0 there is time for all three others: 23, and without it 63/2.
        for (int b = 2; b < 5; b++) {
            x.way(0, b, 10, 10);
            x.way(b, 0, 0, 10);
        }
        x.vehicle(0, 11, 2);
        due("run", runOf(x, PLENTY), 0);
        dueBound(x, 23, 1);
        dueDual(x, 0, -17, 2);
        dueDual(x, 1, 1, 1);
    }

    static void termsFractionsThatAreNoneHaveBothParts0() {
        RoundColumns x = alike(2, 6, 0);
        dueBound(x, 0, 0);
        due("run of no vehicles", runOf(x, PLENTY), 1);
        dueBound(x, 0, 0);
        dueDual(x, 0, 0, 0);
        dueUsed(x, 0, 0, 0);
        dueShare(x, 3, 0, 0);
    }

    static void termsFractionsHaveNoOtherParts() {
        RoundColumns x = alike(3, 6, 2);
        runOf(x, PLENTY);
        for (int part : NO_PARTS) {
            due("bound(" + part + ")", x.bound(part), 0);
            due("dual(0, " + part + ")", x.dual(0, part), 0);
            due("used(2, " + part + ")", x.used(2, part), 0);
            due("share(0, " + part + ")", x.share(0, part), 0);
        }
        dueBound(x, 63, 2);
        dueDual(x, 0, 21, 2);
        dueUsed(x, 2, 1, 2);
        dueShare(x, 0, 1, 2);
    }
}
