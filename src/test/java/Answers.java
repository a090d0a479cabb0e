import java.lang.reflect.InvocationTargetException;
import java.lang.reflect.Method;
import java.lang.reflect.Modifier;
import java.util.ArrayList;
import java.util.Comparator;
import java.util.List;
import java.util.function.Predicate;
import java.util.function.ToLongFunction;

/** What tests of the document's sentences share: answers that are due, and towns to ask. */
abstract class Answers {
    static final int THREW = -9;
    static final int PLENTY = 999;
    static final int LEAST = Integer.MIN_VALUE;
    static final int MOST = Integer.MAX_VALUE;
    /** Above 32 bits only, so that it is 0 if cut down to an int. */
    static final long WRAPS_TO_0 = 1L << 32;
    static final int[] NO_PARTS = {LEAST, -1, 2, 3, MOST};

    /** What is tested now, for what is printed of a wrong answer. */
    static String test = "";
    static int asked;
    private static int wrong;

    /** Ends the program, with exit code 1 if an answer was wrong. */
    static void end(String what) {
        System.out.println(asked + " answers of " + what + ", " + wrong + " wrong");
        if (wrong != 0) {
            System.exit(1);
        }
    }

    /** Each static method of a class whose name begins with one of these is a test of it. */
    static void runTests(Class<?> tests, String... sections) throws ReflectiveOperationException {
        List<Method> methods = new ArrayList<>(List.of(tests.getDeclaredMethods()));
        methods.sort(Comparator.comparing(Method::getName));
        for (String section : sections) {
            int before = asked;
            for (Method method : methods) {
                if (method.getName().startsWith(section)) {
                    runTest(method);
                }
            }
            test = section;
            due("tests of this section are there", asked > before, true);
        }
        for (Method method : methods) {
            test = method.getName();
            due("it is a test of a section", isHelper(method)
                    || List.of(sections).stream().anyMatch(test::startsWith), true);
        }
        end(tests.getSimpleName());
    }

    private static boolean isHelper(Method method) {
        return Modifier.isPrivate(method.getModifiers()) || method.getName().equals("main");
    }

    private static void runTest(Method method) throws ReflectiveOperationException {
        test = method.getName();
        int before = asked;
        try {
            method.invoke(null);
        } catch (InvocationTargetException e) {
            fail("a call threw " + e.getCause());
        }
        if (asked == before || !Modifier.isStatic(method.getModifiers())) {
            fail("the test asks nothing");
        }
    }

    private static void fail(String why) {
        wrong++;
        System.out.println(test + ": " + why);
    }

    static void due(String call, long got, long want) {
        asked++;
        if (got != want) {
            fail(call + " answered " + got + ", due is " + want);
        }
    }

    static void due(String call, boolean got, boolean want) {
        due(call, got ? 1 : 0, want ? 1 : 0);
    }

    private static void dueFraction(String what, long top, long bottom, long wantTop,
            long wantBottom) {
        due(what + " numerator", top, wantTop);
        due(what + " denominator", bottom, wantBottom);
    }

    static void dueBound(RoundColumns x, long top, long bottom) {
        dueFraction("bound", x.bound(0), x.bound(1), top, bottom);
    }

    static void dueDual(RoundColumns x, int bin, long top, long bottom) {
        dueFraction("dual " + bin, x.dual(bin, 0), x.dual(bin, 1), top, bottom);
    }

    static void dueUsed(RoundColumns x, int k, long top, long bottom) {
        dueFraction("used " + k, x.used(k, 0), x.used(k, 1), top, bottom);
    }

    static void dueShare(RoundColumns x, int k, long top, long bottom) {
        dueFraction("share " + k, x.share(k, 0), x.share(k, 1), top, bottom);
    }

    static void dueColumn(RoundColumns x, int k, int... bins) {
        for (int i = 0; i < bins.length; i++) {
            due("column(" + k + ", " + i + ")", x.column(k, i), bins[i]);
        }
        due("column(" + k + ", " + bins.length + ")", x.column(k, bins.length), -1);
    }

    static void dueCut(RoundColumns x, int k, int... bins) {
        for (int i = 0; i < bins.length; i++) {
            due("cut(" + k + ", " + i + ")", x.cut(k, i), bins[i]);
        }
        due("cut(" + k + ", " + bins.length + ")", x.cut(k, bins.length), -1);
    }

    /** A text of 0 and 1 tells which labels were dropped; none beyond it is there. */
    static void dueDropped(RoundColumns x, String labels) {
        due("steps()", x.steps(), labels.length());
        for (int label = 0; label < labels.length(); label++) {
            due("dropped(" + label + ")", x.dropped(label), labels.charAt(label) == '1');
        }
        due("dropped(" + labels.length() + ")", x.dropped(labels.length()), false);
    }

    static void dueNothingFound(RoundColumns x) {
        due("steps()", x.steps(), 0);
        due("columns()", x.columns(), 0);
        due("column(0, 0)", x.column(0, 0), -1);
        dueBound(x, 0, 0);
        dueDual(x, 0, 0, 0);
        dueUsed(x, 0, 0, 0);
        dueShare(x, 0, 0, 0);
        due("dropped(0)", x.dropped(0), false);
        due("cuts()", x.cuts(), 0);
        due("cut(0, 0)", x.cut(0, 0), -1);
        due("check()", x.check(), 0);
    }

    static int runOf(RoundColumns x, int steps) {
        try {
            return x.run(steps);
        } catch (IllegalStateException e) {
            return THREW;
        }
    }

    /** Bins of 3 kilograms, each way of 1 second; 10 from and to the depot, 1 between bins. */
    static RoundColumns alike(int bins, long load, int vehicles) {
        RoundColumns x = new RoundColumns();
        for (int b = 0; b < bins; b++) {
            x.bin(3, 0);
        }
        for (int a = 0; a <= bins; a++) {
            for (int b = 0; b <= bins; b++) {
                x.way(a, b, 1, a == 0 || b == 0 ? 10 : 1);
            }
        }
        x.vehicle(load, 100, vehicles);
        return x;
    }

    /** Bins with no ways but from the depot and back, of 0 seconds, which cost 1 and 0. */
    static RoundColumns lone(int bins, long kilograms, long load, int vehicles) {
        RoundColumns x = new RoundColumns();
        for (int b = 0; b < bins; b++) {
            x.bin(kilograms, 0);
            x.way(0, 1 + b, 0, 1);
            x.way(1 + b, 0, 0, 0);
        }
        x.vehicle(load, 0, vehicles);
        return x;
    }

    /** A town that is other now than it was at its last run: all that is told matters to it. */
    static RoundColumns changed() {
        RoundColumns x = new RoundColumns();
        for (int b = 0; b < 3; b++) {
            x.bin(2 + b, 1 + b);
        }
        for (int a = 0; a < 4; a++) {
            for (int b = 0; b < 4; b++) {
                x.way(a, b, 1 + (a + 2 * b) % 3, 10 + (5 * a + 3 * b) % 7);
            }
        }
        x.vehicle(7, 12, 2);
        runOf(x, PLENTY);
        x.way(0, 1, 2, 4);
        x.vehicle(9, 13, 3);
        x.branch(0, 2, false);
        return x;
    }

    /** All that can be asked of an object of up to three bins. */
    static String everything(RoundColumns x) {
        StringBuilder all = new StringBuilder();
        all.append(x.steps()).append(' ').append(x.columns()).append(' ').append(x.cuts());
        all.append(' ').append(x.check()).append(' ').append(x.labelsClosed());
        all.append(" bound ").append(x.bound(0)).append('/').append(x.bound(1));
        for (int bin = 0; bin <= 3; bin++) {
            all.append(" dual ").append(x.dual(bin, 0)).append('/').append(x.dual(bin, 1));
        }
        for (int k = 0; k <= x.columns(); k++) {
            all.append(" used ").append(x.used(k, 0)).append('/').append(x.used(k, 1));
            all.append(" share ").append(x.share(k, 0)).append('/').append(x.share(k, 1));
            for (int i = 0; i <= 3; i++) {
                all.append(i == 0 ? " column " : ",").append(x.column(k, i));
            }
        }
        for (int label = 0; label <= x.steps(); label++) {
            all.append(x.dropped(label) ? " dropped" : " kept");
        }
        for (int k = 0; k <= x.cuts(); k++) {
            for (int i = 0; i <= 3; i++) {
                all.append(i == 0 ? " cut " : ",").append(x.cut(k, i));
            }
        }
        return all.toString();
    }

    static void dueSame(String when, RoundColumns x, RoundColumns twin) {
        String got = everything(x);
        String want = everything(twin);
        asked++;
        if (!got.equals(want)) {
            fail(when + " the answers are " + got + ", due are " + want);
        }
    }

    /** The call answers that it is refused, and changes neither what was found nor the town. */
    static void dueRefused(String call, long answer, ToLongFunction<RoundColumns> refused) {
        RoundColumns x = changed();
        RoundColumns twin = changed();
        due(call, refused.applyAsLong(x), answer);
        dueSame("after " + call, x, twin);
        due("run after " + call, runOf(x, PLENTY), runOf(twin, PLENTY));
        dueSame("after a run after " + call, x, twin);
        due("the next bin after " + call, x.bin(1, 1), 3);
    }

    static void dueFalse(String call, Predicate<RoundColumns> refused) {
        dueRefused(call, 0, x -> refused.test(x) ? 1 : 0);
    }
}
