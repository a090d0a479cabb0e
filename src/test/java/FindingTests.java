/** Promises 7 to 10 and 15 to 19: what run() finds, of labels, columns and cuts. */
public final class FindingTests extends Answers {
    /** Labels of all sets of so many bins. */
    private static final int[] ALL_LABELS = {0, 1, 4, 12, 32, 80, 192};
    private static final int[] NO_NUMBERS = {LEAST, LEAST + 1, -64, -1, MOST - 1, MOST};

    public static void main(String[] args) throws ReflectiveOperationException {
        runTests(FindingTests.class, "promise07", "promise08", "promise09", "promise10",
                "promise15", "promise16", "promise17", "promise18", "promise19");
    }

    /** Bins of 1000 kilograms, 0 seconds and ways of 0 to and between all places. */
    private static RoundColumns heavy(int bins, long load) {
        RoundColumns x = new RoundColumns();
        for (int b = 0; b < bins; b++) {
            x.bin(1000, 0);
        }
        for (int a = 0; a <= bins; a++) {
            for (int b = 0; b <= bins; b++) {
                x.way(a, b, 0, 0);
            }
        }
        x.vehicle(load, 0, 6);
        runOf(x, PLENTY);
        return x;
    }

    /** Rounds 0, 1, 2 of any of these bins but 0 with 2: there is no way from one to the other. */
    private static RoundColumns bent() {
        RoundColumns x = new RoundColumns();
        for (int b = 0; b < 3; b++) {
            x.bin(1, 0);
            x.way(0, 1 + b, 1, 10);
            x.way(1 + b, 0, 1, 10);
        }
        x.way(1, 2, 1, 1);
        x.way(2, 3, 1, 1);
        x.vehicle(3, 4, 3);
        return x;
    }

    static void promise07JustAsManyStepsAsLabels() {
        for (int bins = 0; bins <= 6; bins++) {
            RoundColumns x = alike(bins, 18, 1);
            due(bins + " bins: run", runOf(x, ALL_LABELS[bins]), 0);
            due("steps()", x.steps(), ALL_LABELS[bins]);
        }
    }

    static void promise07OneStepLessThrows() {
        for (int bins = 0; bins <= 6; bins++) {
            RoundColumns x = alike(bins, 18, 1);
            due(bins + " bins: run", runOf(x, ALL_LABELS[bins] - 1), THREW);
            dueNothingFound(x);
            due("labelsClosed()", x.labelsClosed(), false);
        }
    }

    static void promise07TheLeastAndTheGreatestSteps() {
        RoundColumns x = alike(2, 6, 1);
        int[] tooFew = {LEAST, LEAST + 1, -4, -1, 0, 1, 3};
        for (int steps : tooFew) {
            due("run(" + steps + ")", runOf(x, steps), THREW);
        }
        dueNothingFound(x);
        int[] enough = {4, 5, 192, MOST - 1, MOST};
        for (int steps : enough) {
            due("run(" + steps + ")", runOf(x, steps), 0);
        }
    }

    static void promise07TheEmptyTown() {
        RoundColumns x = new RoundColumns();
        due("run(least)", runOf(x, LEAST), THREW);
        due("run(-1)", runOf(x, -1), THREW);
        due("labelsClosed()", x.labelsClosed(), false);
        due("run(0)", runOf(x, 0), 0);
        dueBound(x, 0, 1);
        due("run(most)", runOf(x, MOST), 0);
        x.vehicle(6000, 20000, 6);
        due("run(0) of six vehicles", runOf(x, 0), 0);
        due("run(-1) of six vehicles", runOf(x, -1), THREW);
        dueBound(x, 0, 1);
    }

    static void promise07NoRowsTakeNoSteps() {
        RoundColumns x = new RoundColumns();
        x.bin(0, 0);
        due("run(-1)", runOf(x, -1), THREW);
        due("run(0)", runOf(x, 0), 1);
        due("labelsClosed()", x.labelsClosed(), true);
    }

    static void promise07StepsAreOfLabelsThatLedNowhereToo() {
        RoundColumns x = new RoundColumns();
        x.bin(0, 0);
        x.way(0, 1, 0, 0);
        due("run(0)", runOf(x, 0), THREW);
        due("run(1)", runOf(x, 1), 1);
    }

    static void promise07StepsAreNotOfRows() {
        // 1956 rows have 192 labels.
        RoundColumns x = alike(6, 18, 1);
        due("run(192)", runOf(x, 192), 0);
        due("run(191)", runOf(x, 191), THREW);
    }

    static void promise07PairsTakeNoLabelsAway() {
        RoundColumns x = alike(2, 6, 2);
        x.branch(0, 1, false);
        due("run(3)", runOf(x, 3), THREW);
        due("run(4)", runOf(x, 4), 0);
    }

    static void promise07NoMixtureWithoutVehicles() {
        RoundColumns x = alike(3, 9, 0);
        due("run", runOf(x, PLENTY), 1);
        due("columns()", x.columns(), 7);
        due("steps()", x.steps(), 12);
    }

    static void promise07NoMixtureForABinWithoutAColumn() {
        RoundColumns x = alike(3, 9, 6);
        x.bin(3, 0);
        due("run", runOf(x, PLENTY), 1);
        due("columns()", x.columns(), 7);
        dueBound(x, 0, 0);
    }

    static void promise07NoMixtureThrowsWithTooFewStepsAllTheSame() {
        RoundColumns x = alike(2, 6, 0);
        due("run(3)", runOf(x, 3), THREW);
        due("run(4)", runOf(x, 4), 1);
        due("run(3)", runOf(x, 3), THREW);
        due("steps()", x.steps(), 4);
    }

    static void promise07AThrowKeepsWhatWasFound() {
        RoundColumns x = changed();
        RoundColumns twin = changed();
        due("run(11)", runOf(x, 11), THREW);
        dueSame("after a throw", x, twin);
        dueBound(x, 109, 2);
        due("steps()", x.steps(), 9);
    }

    static void promise07AThrowKeepsWhatWasTold() {
        RoundColumns x = changed();
        due("run(11)", runOf(x, 11), THREW);
        due("run(12)", runOf(x, 12), 0);
        dueBound(x, 54, 1);
        dueUsed(x, 4, 0, 0);
        dueUsed(x, 6, 0, 0);
    }

    static void promise07AThrowOfMoreBinsKeepsWhatWasFound() {
        RoundColumns x = alike(2, 6, 2);
        runOf(x, 4);
        for (int b = 0; b < 4; b++) {
            x.bin(0, 0);
            x.way(0, 3 + b, 0, 0);
            x.way(3 + b, 0, 0, 0);
        }
        due("run(7)", runOf(x, 7), THREW);
        due("columns()", x.columns(), 3);
        dueColumn(x, 2, 0, 1);
        dueUsed(x, 2, 1, 1);
        dueDual(x, 1, 1, 1);
        dueDual(x, 2, 0, 0);
        due("cuts()", x.cuts(), 0);
        dueShare(x, 2, 1, 1);
        due("run(8)", runOf(x, 8), 1);
        due("columns()", x.columns(), 7);
    }

    static void promise07TheSameRunAgainFindsTheSame() {
        RoundColumns x = changed();
        RoundColumns twin = changed();
        runOf(twin, PLENTY);
        for (int times = 0; times < 3; times++) {
            due("run", runOf(x, PLENTY), 0);
        }
        dueSame("after runs", x, twin);
    }

    static void promise07AMixtureIsThereAgainAfterNone() {
        RoundColumns x = alike(2, 6, 0);
        due("run of none", runOf(x, 4), 1);
        x.vehicle(6, 100, 1);
        due("run of one", runOf(x, 4), 0);
        dueBound(x, 21, 1);
        x.vehicle(6, 100, 0);
        due("run of none", runOf(x, 4), 1);
        dueBound(x, 0, 0);
    }

    static void promise08Is0BeforeRun() {
        RoundColumns x = alike(6, 18, 1);
        due("steps()", x.steps(), 0);
    }

    static void promise08Is0AfterAThrowWithoutARunBefore() {
        RoundColumns x = alike(6, 18, 1);
        runOf(x, 191);
        due("steps()", x.steps(), 0);
    }

    static void promise08IsKeptByAThrow() {
        RoundColumns x = alike(2, 3, 2);
        runOf(x, 2);
        x.vehicle(6, 100, 2);
        runOf(x, 3);
        due("steps()", x.steps(), 2);
        runOf(x, 4);
        due("steps()", x.steps(), 4);
    }

    static void promise08From0To192() {
        for (int bins = 0; bins <= 6; bins++) {
            RoundColumns x = alike(bins, 18, 0);
            runOf(x, PLENTY);
            due("steps() of " + bins + " bins", x.steps(), ALL_LABELS[bins]);
        }
    }

    static void promise08Is0AgainWithoutRows() {
        RoundColumns x = alike(6, 18, 1);
        runOf(x, PLENTY);
        x.vehicle(18, 0, 1);
        runOf(x, PLENTY);
        due("steps()", x.steps(), 0);
    }

    static void promise08HowManyWereAskedForIsNotTold() {
        RoundColumns x = alike(1, 3, 1);
        runOf(x, MOST);
        due("steps()", x.steps(), 1);
    }

    static void promise09Is0BeforeRunAndAfterAThrow() {
        RoundColumns x = alike(3, 9, 1);
        due("columns()", x.columns(), 0);
        runOf(x, 11);
        due("columns()", x.columns(), 0);
    }

    static void promise09NoneAndAll63() {
        RoundColumns x = alike(6, 18, 1);
        runOf(x, PLENTY);
        due("columns()", x.columns(), 63);
        x.vehicle(2, 100, 1);
        runOf(x, PLENTY);
        due("columns() of too small a load", x.columns(), 0);
        x.vehicle(18, 1, 1);
        runOf(x, PLENTY);
        due("columns() of too few seconds", x.columns(), 0);
        due("steps() of rows of a second", x.steps(), 6);
    }

    static void promise09LabelsWithoutRoundsAreNone() {
        RoundColumns x = new RoundColumns();
        x.bin(0, 0);
        x.way(0, 1, 0, 0);
        runOf(x, 1);
        due("columns()", x.columns(), 0);
    }

    static void promise09OneForASetWithManyRounds() {
        RoundColumns x = alike(2, 6, 1);
        runOf(x, PLENTY);
        due("columns()", x.columns(), 3);
    }

    static void promise09BarredOnesToo() {
        RoundColumns x = alike(6, 18, 6);
        for (int b = 1; b < 6; b++) {
            x.branch(0, b, false);
            x.branch(b, b % 5 + 1, true);
        }
        due("run", runOf(x, PLENTY), 0);
        due("columns()", x.columns(), 63);
        dueBound(x, 44, 1);
    }

    static void promise09WithoutAMixtureToo() {
        RoundColumns x = alike(6, 18, 0);
        due("run", runOf(x, PLENTY), 1);
        due("columns()", x.columns(), 63);
    }

    static void promise10BeforeRunThereIsNone() {
        RoundColumns x = alike(3, 9, 1);
        due("column(0, 0)", x.column(0, 0), -1);
        runOf(x, 11);
        due("column(0, 0) after a throw", x.column(0, 0), -1);
    }

    static void promise10TheFirstAndTheLastColumn() {
        RoundColumns x = alike(6, 18, 1);
        runOf(x, PLENTY);
        due("column(-1, 0)", x.column(-1, 0), -1);
        dueColumn(x, 0, 0);
        dueColumn(x, 61, 1, 2, 3, 4, 5);
        dueColumn(x, 62, 0, 1, 2, 3, 4, 5);
        due("column(63, 0)", x.column(63, 0), -1);
        due("column(64, 0)", x.column(64, 0), -1);
    }

    static void promise10TheFirstAndTheLastBin() {
        RoundColumns x = alike(6, 18, 1);
        runOf(x, PLENTY);
        due("column(62, -1)", x.column(62, -1), -1);
        due("column(62, 0)", x.column(62, 0), 0);
        due("column(62, 5)", x.column(62, 5), 5);
        due("column(62, 6)", x.column(62, 6), -1);
        due("column(0, -1)", x.column(0, -1), -1);
        due("column(0, 1)", x.column(0, 1), -1);
        due("column(0, 6)", x.column(0, 6), -1);
        due("column(1, -6)", x.column(1, -6), -1);
    }

    static void promise10NumbersFarOutside() {
        RoundColumns x = alike(6, 18, 1);
        runOf(x, PLENTY);
        for (int number : NO_NUMBERS) {
            due("column(" + number + ", 0)", x.column(number, 0), -1);
            due("column(62, " + number + ")", x.column(62, number), -1);
            due("column(" + number + ", " + number + ")", x.column(number, number), -1);
        }
        // Six times this is 2 in an int.
        due("column(715827883, 0)", x.column(715827883, 0), -1);
    }

    static void promise10AColumnThatIsNoMoreIsNone() {
        RoundColumns x = alike(3, 9, 1);
        runOf(x, PLENTY);
        x.vehicle(6, 100, 1);
        dueColumn(x, 6, 0, 1, 2);
        runOf(x, PLENTY);
        due("column(6, 0)", x.column(6, 0), -1);
        x.vehicle(0, 100, 1);
        runOf(x, PLENTY);
        due("column(0, 0)", x.column(0, 0), -1);
    }

    static void promise10BarredAndWithoutAMixtureToo() {
        RoundColumns x = alike(2, 6, 0);
        x.branch(0, 1, false);
        due("run", runOf(x, PLENTY), 1);
        dueColumn(x, 2, 0, 1);
    }

    static void promise10TheOrderIsThatOfTheRoundNotOfNumbers() {
        RoundColumns x = new RoundColumns();
        for (int b = 0; b < 6; b++) {
            x.bin(0, 0);
        }
        x.way(0, 6, 0, 0);
        for (int b = 6; b > 0; b--) {
            x.way(b, b - 1, 0, 0);
        }
        runOf(x, PLENTY);
        due("columns()", x.columns(), 1);
        dueColumn(x, 0, 5, 4, 3, 2, 1, 0);
    }

    static void promise15BeforeRunNoneWas() {
        RoundColumns x = new RoundColumns();
        x.bin(0, 0);
        x.way(0, 1, 0, 0);
        due("dropped(0)", x.dropped(0), false);
        due("run(0)", runOf(x, 0), THREW);
        due("dropped(0) after a throw", x.dropped(0), false);
        runOf(x, 1);
        due("dropped(0) after run()", x.dropped(0), true);
    }

    static void promise15TheFirstAndTheLastLabel() {
        RoundColumns x = new RoundColumns();
        for (int b = 0; b < 6; b++) {
            x.bin(0, 0);
        }
        for (int a = 0; a < 7; a++) {
            for (int b = 1; b < 7; b++) {
                x.way(a, b, 0, 0);
            }
        }
        runOf(x, PLENTY);
        due("steps()", x.steps(), 192);
        due("columns()", x.columns(), 0);
        due("dropped(-1)", x.dropped(-1), false);
        due("dropped(0)", x.dropped(0), true);
        due("dropped(191)", x.dropped(191), true);
        due("dropped(192)", x.dropped(192), false);
        due("dropped(193)", x.dropped(193), false);
        for (int number : NO_NUMBERS) {
            due("dropped(" + number + ")", x.dropped(number), false);
        }
    }

    static void promise15NoneOfAllLabels() {
        RoundColumns x = alike(6, 18, 1);
        runOf(x, PLENTY);
        due("dropped(0)", x.dropped(0), false);
        due("dropped(95)", x.dropped(95), false);
        due("dropped(191)", x.dropped(191), false);
        due("dropped(192)", x.dropped(192), false);
    }

    /** Ends with 2 and all three bins: 0, 1, 2 has 3 seconds and 1, 0, 2 has 4, home is 1. */
    private static RoundColumns twoRows(int seconds) {
        RoundColumns x = new RoundColumns();
        for (int b = 0; b < 3; b++) {
            x.bin(0, 0);
        }
        x.way(0, 1, 1, 0);
        x.way(0, 2, 1, 0);
        x.way(1, 2, 1, 0);
        x.way(2, 1, 2, 0);
        x.way(1, 3, 1, 0);
        x.way(2, 3, 1, 0);
        x.way(3, 0, 1, 0);
        x.vehicle(0, seconds, 1);
        runOf(x, PLENTY);
        return x;
    }

    static void promise15OneRowThatIsARoundIsEnough() {
        // The sets 0, 1, 01 twice, 02, 12 and 012: those with 2 come home.
        dueDropped(twoRows(5), "1111000");
        dueDropped(twoRows(4), "1111000");
    }

    static void promise15NoRowIsARound() {
        dueDropped(twoRows(3), "1111001");
        // No time for 012, nor for 1, 0.
        dueDropped(twoRows(2), "11111");
        dueDropped(twoRows(1), "11");
        dueDropped(twoRows(0), "");
    }

    static void promise15AnotherLastBinOfTheSameSetDoesNotCount() {
        RoundColumns x = alike(2, 6, 1);
        x.way(1, 0, 100, 10);
        runOf(x, PLENTY);
        // Nothing that ends with 0 comes home in 100 seconds.
        dueDropped(x, "1010");
    }

    static void promise15BarredColumnsAreRoundsToo() {
        RoundColumns x = alike(2, 6, 2);
        x.branch(0, 1, false);
        runOf(x, PLENTY);
        dueDropped(x, "0000");
    }

    static void promise15WaysAfterRunDoNotCount() {
        RoundColumns x = new RoundColumns();
        x.bin(0, 0);
        x.way(0, 1, 0, 0);
        runOf(x, 1);
        x.way(1, 0, 0, 0);
        due("dropped(0)", x.dropped(0), true);
        runOf(x, 1);
        due("dropped(0)", x.dropped(0), false);
    }

    static void promise16BeforeRunThereAreNone() {
        RoundColumns x = alike(3, 1, 1);
        due("cuts()", x.cuts(), 0);
        x.vehicle(3, 100, 1);
        due("run(2)", runOf(x, 2), THREW);
        due("cuts() after a throw", x.cuts(), 0);
    }

    static void promise16AtJustTheLoadASetIsNone() {
        due("cuts() of 6000 of 6000", heavy(6, 6000).cuts(), 0);
        due("cuts() of 6000 of 5999", heavy(6, 5999).cuts(), 1);
        due("cuts() of 5000 of 5000", heavy(6, 5000).cuts(), 1);
        due("cuts() of 5000 of 4999", heavy(6, 4999).cuts(), 7);
        due("cuts() of 1000 of 1000", heavy(6, 1000).cuts(), 57);
        due("cuts() of 1000 of 999", heavy(6, 999).cuts(), 63);
    }

    static void promise16ALoadOf0And1() {
        due("cuts() of a load of 0", heavy(6, 0).cuts(), 0);
        due("cuts() of a load of 1", heavy(6, 1).cuts(), 63);
    }

    static void promise16TheEmptyTownAndEmptyBins() {
        RoundColumns x = new RoundColumns();
        x.vehicle(1, 0, 0);
        runOf(x, 0);
        due("cuts() of no bins", x.cuts(), 0);
        for (int b = 0; b < 6; b++) {
            x.bin(0, 0);
        }
        runOf(x, 0);
        due("cuts() of empty bins", x.cuts(), 0);
    }

    static void promise16WaysSecondsAndPairsDoNotCount() {
        RoundColumns x = new RoundColumns();
        x.bin(2, 1000);
        x.bin(2, 1000);
        x.vehicle(3, 0, 0);
        x.branch(0, 1, true);
        due("run", runOf(x, 0), 1);
        due("cuts()", x.cuts(), 1);
    }

    static void promise16LoadsAndBinsAfterRunDoNotCount() {
        RoundColumns x = heavy(2, 1000);
        due("cuts()", x.cuts(), 1);
        x.vehicle(1, 0, 6);
        x.bin(1000, 0);
        due("cuts() still", x.cuts(), 1);
        due("run(-1)", runOf(x, -1), THREW);
        due("cuts() after a throw", x.cuts(), 1);
        runOf(x, 0);
        due("cuts() of the next run", x.cuts(), 7);
    }

    static void promise17BeforeRunAndAtALoadOf0ThereIsNone() {
        RoundColumns x = alike(3, 1, 1);
        due("cut(0, 0)", x.cut(0, 0), -1);
        due("cut(0, 0) of a load of 0", heavy(6, 0).cut(0, 0), -1);
        due("cut(0, 0) of the load of all", heavy(6, 6000).cut(0, 0), -1);
    }

    static void promise17TheFirstAndTheLastCut() {
        RoundColumns x = heavy(6, 1);
        due("cut(-1, 0)", x.cut(-1, 0), -1);
        dueCut(x, 0, 0);
        dueCut(x, 1, 1);
        dueCut(x, 2, 0, 1);
        dueCut(x, 61, 1, 2, 3, 4, 5);
        dueCut(x, 62, 0, 1, 2, 3, 4, 5);
        due("cut(63, 0)", x.cut(63, 0), -1);
    }

    static void promise17TheFirstAndTheLastBin() {
        RoundColumns x = heavy(6, 5999);
        due("cut(0, -1)", x.cut(0, -1), -1);
        dueCut(x, 0, 0, 1, 2, 3, 4, 5);
        due("cut(0, 7)", x.cut(0, 7), -1);
        due("cut(1, 0)", x.cut(1, 0), -1);
    }

    static void promise17NumbersFarOutside() {
        RoundColumns x = heavy(6, 999);
        for (int number : NO_NUMBERS) {
            due("cut(" + number + ", 0)", x.cut(number, 0), -1);
            due("cut(62, " + number + ")", x.cut(62, number), -1);
            due("cut(" + number + ", " + number + ")", x.cut(number, number), -1);
        }
    }

    static void promise17ByTheSumsAndThenByNumbers() {
        RoundColumns x = new RoundColumns();
        x.bin(5, 0);
        x.bin(1, 0);
        x.bin(3, 0);
        x.bin(1, 0);
        x.vehicle(5, 0, 0);
        runOf(x, 0);
        // Above 5: 01, 02, 012, 03, 013, 023 and 0123; not 123.
        due("cuts()", x.cuts(), 7);
        dueCut(x, 0, 0, 1);
        dueCut(x, 1, 0, 2);
        dueCut(x, 2, 0, 1, 2);
        dueCut(x, 3, 0, 3);
        dueCut(x, 4, 0, 1, 3);
        dueCut(x, 5, 0, 2, 3);
        dueCut(x, 6, 0, 1, 2, 3);
        due("cut(7, 0)", x.cut(7, 0), -1);
    }

    static void promise17ByNumbersWhateverTheRound() {
        RoundColumns x = alike(2, 6, 1);
        x.way(0, 2, 1, 0);
        runOf(x, PLENTY);
        dueColumn(x, 2, 1, 0);
        x.vehicle(5, 100, 2);
        runOf(x, PLENTY);
        dueCut(x, 0, 0, 1);
    }

    static void promise17LoadsAndBinsAfterRunDoNotCount() {
        RoundColumns x = heavy(2, 1000);
        x.vehicle(1, 0, 6);
        x.bin(1000, 0);
        dueCut(x, 0, 0, 1);
        due("cut(1, 0)", x.cut(1, 0), -1);
        runOf(x, 0);
        dueCut(x, 0, 0);
        dueCut(x, 6, 0, 1, 2);
    }

    static void promise18WithoutColumnsThereIsNothingToFind() {
        RoundColumns x = new RoundColumns();
        due("check() of a new object", x.check(), 0);
        runOf(x, 0);
        due("check() of the empty town", x.check(), 0);
        x = alike(3, 9, 1);
        due("check() before run()", x.check(), 0);
        runOf(x, 11);
        due("check() after a throw", x.check(), 0);
        x.vehicle(0, 0, 0);
        runOf(x, 0);
        x.vehicle(9, 100, 1);
        due("check() of no columns", x.check(), 0);
    }

    static void promise18NothingChanged() {
        RoundColumns x = alike(6, 18, 1);
        runOf(x, PLENTY);
        due("check()", x.check(), 0);
        due("the same way again", x.way(0, 1, 1, 10), true);
        due("the same vehicle again", x.vehicle(18, 100, 1), true);
        due("check()", x.check(), 0);
    }

    static void promise18TheFirstAndTheLastColumn() {
        RoundColumns x = alike(6, 18, 1);
        runOf(x, PLENTY);
        x.vehicle(17, 100, 1);
        due("check() of a load too small for all", x.check(), 63);
        x.vehicle(0, 100, 1);
        due("check() of a load of 0", x.check(), 1);
        x.vehicle(18, 0, 1);
        due("check() of 0 seconds", x.check(), 1);
        x.vehicle(18, 7, 1);
        due("check() of just the seconds", x.check(), 0);
        x.vehicle(18, 6, 1);
        due("check() of a second less", x.check(), 63);
    }

    static void promise18LoadAndSecondsMayBeJustReached() {
        RoundColumns x = alike(3, 9, 1);
        runOf(x, PLENTY);
        long[][] cases = {{9, 4, 0}, {8, 4, 7}, {9, 3, 7}, {6, 4, 7}, {5, 4, 3}, {9, 2, 3},
            {3, 4, 3}, {2, 4, 1}, {9, 1, 1}};
        for (long[] row : cases) {
            x.vehicle(row[0], (int) row[1], 1);
            due("check() of " + row[0] + " and " + row[1], x.check(), row[2]);
        }
    }

    static void promise18SecondsOfBinsCount() {
        RoundColumns x = new RoundColumns();
        x.bin(0, 5);
        x.bin(0, 7);
        for (int a = 0; a < 3; a++) {
            for (int b = 0; b < 3; b++) {
                x.way(a, b, 1, 1);
            }
        }
        x.vehicle(0, 15, 2);
        runOf(x, PLENTY);
        // 0 takes 7 seconds, 1 takes 9, and both 15.
        int[][] cases = {{15, 0}, {14, 3}, {9, 3}, {8, 2}, {7, 2}, {6, 1}, {0, 1}};
        for (int[] row : cases) {
            x.vehicle(0, row[0], 2);
            due("check() of " + row[0] + " seconds", x.check(), row[1]);
        }
    }

    static void promise18ALongerWay() {
        RoundColumns x = alike(3, 9, 1);
        runOf(x, PLENTY);
        int[][] cases = {{97, 0}, {98, 7}, {99, 3}, {100, 1}, {1000, 1}, {0, 0}};
        for (int[] row : cases) {
            x.way(0, 1, row[0], 10);
            due("check() of a way of " + row[0], x.check(), row[1]);
        }
    }

    static void promise18ADearerOrCheaperWay() {
        RoundColumns x = alike(3, 9, 1);
        runOf(x, PLENTY);
        long[][] cases = {{11, 1}, {10, 0}, {9, 1}, {0, 1}, {2000, 1}, {10, 0}};
        for (long[] row : cases) {
            x.way(0, 1, 1, row[0]);
            due("check() of a cost of " + row[0], x.check(), row[1]);
        }
    }

    static void promise18ARoundThatCosts0AndIsNoneNow() {
        RoundColumns x = heavy(1, 1000);
        due("check()", x.check(), 0);
        x.way(0, 1, 1, 0);
        due("check() of a second too many", x.check(), 1);
        x.way(0, 1, 0, 0);
        x.vehicle(999, 0, 6);
        due("check() of a kilogram too many", x.check(), 1);
    }

    static void promise18WaysOfOtherCostsButTheSameTogether() {
        RoundColumns x = alike(2, 6, 1);
        runOf(x, PLENTY);
        x.way(0, 1, 1, 11);
        x.way(1, 0, 1, 9);
        // 0 alone still costs 20, 0 and 1 cost 22.
        due("check()", x.check(), 3);
        x.way(2, 0, 1, 9);
        x.way(0, 2, 1, 11);
        due("check() of the way home from 1 too", x.check(), 0);
    }

    static void promise18WaysThatNoRoundGoesDoNotCount() {
        RoundColumns x = alike(3, 9, 1);
        runOf(x, PLENTY);
        x.way(2, 1, 1000, 2000);
        x.way(3, 1, 0, 0);
        x.way(3, 2, 0, 0);
        due("check()", x.check(), 0);
    }

    static void promise18ThatAnotherRoundIsCheaperDoesNotCount() {
        RoundColumns x = alike(2, 6, 1);
        runOf(x, PLENTY);
        x.way(2, 1, 0, 0);
        due("check()", x.check(), 0);
        runOf(x, PLENTY);
        dueColumn(x, 2, 1, 0);
        due("check() of the next run", x.check(), 0);
    }

    static void promise18BinsPairsAndHowManyVehiclesDoNotCount() {
        RoundColumns x = alike(3, 9, 1);
        runOf(x, PLENTY);
        x.bin(1000, 1000);
        x.branch(0, 1, false);
        x.branch(1, 2, true);
        x.vehicle(9, 100, 0);
        due("check()", x.check(), 0);
    }

    static void promise18BarredColumnsCount() {
        RoundColumns x = alike(2, 6, 2);
        x.branch(0, 1, false);
        runOf(x, PLENTY);
        x.way(1, 2, 1, 2);
        due("check()", x.check(), 3);
    }

    static void promise18WithoutAMixtureToo() {
        RoundColumns x = alike(2, 6, 0);
        due("run", runOf(x, PLENTY), 1);
        x.way(1, 2, 1, 2);
        due("check()", x.check(), 3);
    }

    static void promise18RefusedCallsDoNotCount() {
        RoundColumns x = alike(2, 6, 2);
        runOf(x, PLENTY);
        due("way(0, 1, 1001, 0)", x.way(0, 1, 1001, 0), false);
        due("vehicle(0, 0, 7)", x.vehicle(0, 0, 7), false);
        due("check()", x.check(), 0);
    }

    static void promise18AThrowKeepsTheRoundsThatAreChecked() {
        RoundColumns x = alike(2, 6, 2);
        runOf(x, PLENTY);
        x.way(1, 2, 1, 2);
        due("run(3)", runOf(x, 3), THREW);
        due("check()", x.check(), 3);
        due("run(4)", runOf(x, 4), 0);
        due("check()", x.check(), 0);
    }

    static void promise18ToldBackAllIsWell() {
        RoundColumns x = alike(2, 6, 2);
        runOf(x, PLENTY);
        x.way(0, 1, 1000, 2000);
        x.vehicle(0, 0, 0);
        due("check()", x.check(), 1);
        x.way(0, 1, 1, 10);
        due("check() of a vehicle of 0", x.check(), 1);
        x.vehicle(6, 3, 0);
        due("check() of a vehicle told back", x.check(), 0);
    }

    static void promise19BeforeRunAndAfterAThrowNot() {
        RoundColumns x = new RoundColumns();
        due("labelsClosed()", x.labelsClosed(), false);
        due("run(-1)", runOf(x, -1), THREW);
        due("labelsClosed() after a throw", x.labelsClosed(), false);
        due("run(0)", runOf(x, 0), 0);
        due("labelsClosed() of the empty town", x.labelsClosed(), true);
        due("run(-1)", runOf(x, -1), THREW);
        due("labelsClosed() after run() and a throw", x.labelsClosed(), true);
    }

    static void promise19NoColumnsAndAll63() {
        RoundColumns x = alike(6, 18, 0);
        runOf(x, PLENTY);
        due("labelsClosed() of all 63", x.labelsClosed(), true);
        x.vehicle(0, 0, 0);
        runOf(x, PLENTY);
        due("labelsClosed() of none", x.labelsClosed(), true);
    }

    static void promise19ColumnsOfOneBinAreClosed() {
        RoundColumns x = lone(6, 0, 0, 0);
        runOf(x, PLENTY);
        due("columns()", x.columns(), 6);
        due("labelsClosed()", x.labelsClosed(), true);
        RoundColumns last = new RoundColumns();
        for (int b = 0; b < 6; b++) {
            last.bin(0, 0);
        }
        last.way(0, 6, 0, 0);
        last.way(6, 0, 0, 0);
        runOf(last, PLENTY);
        due("labelsClosed() of the last alone", last.labelsClosed(), true);
    }

    static void promise19TheLastBinMissing() {
        RoundColumns x = new RoundColumns();
        x.bin(0, 0);
        x.bin(0, 0);
        x.way(0, 1, 0, 0);
        x.way(1, 0, 0, 0);
        x.way(1, 2, 0, 0);
        x.way(2, 0, 0, 0);
        runOf(x, PLENTY);
        // 1 alone has no way there.
        due("columns()", x.columns(), 2);
        due("labelsClosed()", x.labelsClosed(), false);
        x.way(0, 2, 0, 0);
        due("labelsClosed() before the next run()", x.labelsClosed(), false);
        runOf(x, PLENTY);
        due("labelsClosed() of all", x.labelsClosed(), true);
    }

    static void promise19TheFirstBinMissing() {
        RoundColumns x = new RoundColumns();
        x.bin(0, 0);
        x.bin(0, 0);
        x.way(0, 2, 0, 0);
        x.way(2, 0, 0, 0);
        x.way(2, 1, 0, 0);
        x.way(1, 0, 0, 0);
        runOf(x, PLENTY);
        due("columns()", x.columns(), 2);
        due("labelsClosed()", x.labelsClosed(), false);
    }

    static void promise19TheOnlyColumnIsOfTwo() {
        RoundColumns x = new RoundColumns();
        x.bin(0, 0);
        x.bin(0, 0);
        x.way(0, 1, 0, 0);
        x.way(1, 2, 0, 0);
        x.way(2, 0, 0, 0);
        runOf(x, PLENTY);
        due("columns()", x.columns(), 1);
        due("labelsClosed()", x.labelsClosed(), false);
    }

    static void promise19APairMissingOfThree() {
        RoundColumns x = bent();
        runOf(x, PLENTY);
        due("columns()", x.columns(), 6);
        due("labelsClosed()", x.labelsClosed(), false);
        x.vehicle(3, 3, 3);
        runOf(x, PLENTY);
        due("columns() without all three", x.columns(), 5);
        due("labelsClosed() without all three", x.labelsClosed(), true);
    }

    static void promise19BarredColumnsAreColumns() {
        RoundColumns x = alike(3, 9, 3);
        x.branch(0, 1, true);
        x.branch(1, 2, false);
        runOf(x, PLENTY);
        due("labelsClosed()", x.labelsClosed(), true);
    }

    static void promise19WithoutAMixtureToo() {
        RoundColumns x = alike(3, 9, 0);
        due("run", runOf(x, PLENTY), 1);
        due("labelsClosed()", x.labelsClosed(), true);
    }
}
