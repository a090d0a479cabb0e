import java.lang.reflect.Constructor;
import java.lang.reflect.Field;
import java.lang.reflect.Method;
import java.lang.reflect.Modifier;
import java.nio.file.Files;
import java.nio.file.Path;
import java.util.ArrayList;
import java.util.Arrays;
import java.util.HashSet;
import java.util.List;
import java.util.Set;
import java.util.TreeSet;
import java.util.regex.Matcher;
import java.util.regex.Pattern;

/** The document's public face, those rules of the language that can be looked up, and the room. */
public final class FormTests {
    private static final Path SOURCE = Path.of("src/main/java/RoundColumns.java");
    private static final Set<String> FACE = Set.of(
            "int bin(long,int)", "boolean way(int,int,int,long)", "boolean vehicle(long,int,int)",
            "boolean branch(int,int,boolean)", "void clear()", "int run(int)", "int steps()",
            "int columns()", "int column(int,int)", "long bound(int)", "long dual(int,int)",
            "long used(int,int)", "long share(int,int)", "boolean dropped(int)", "int cuts()",
            "int cut(int,int)", "int check()", "boolean labelsClosed()");
    private static final String[] RULED_OUT = {
        "->", "::", "\\bcatch\\b", "\\bfinally\\b", "\\bsynchronized\\b", "\\bassert\\b",
        "\\bpackage\\b", "\\bvar\\b", "Exact\\b", "\\bSystem\\.(?!arraycopy\\b)", "\\bRandom\\b",
        "\\bThread\\b", "\\bwhile\\s*\\(\\s*true", "\\bfor\\s*\\(\\s*;", "\\bstatic\\s*\\{",
        "\\bArrays\\.(?!fill\\b|copyOf\\b|copyOfRange\\b)", "\\bdouble\\b", "\\bfloat\\b",
    };
    private static final int MOST_LINES_OF_METHOD = 60;
    private static final long MOST_CELLS_OF_OBJECT = 4000;

    private static int wrong;

    public static void main(String[] args) throws Exception {
        faceIsTheDocuments();
        nothingElseIsVisible();
        classesAreSmall();
        String code = withoutComments(Files.readString(SOURCE));
        nothingRuledOut(code);
        methodsAreShort(code);
        callsMakeNothing();
        objectsAreSmall();
        System.out.println("form: " + wrong + " faults");
        if (wrong != 0) {
            System.exit(1);
        }
    }

    private static void demand(boolean holds, String fault) {
        if (!holds) {
            wrong++;
            System.out.println(fault);
        }
    }

    private static String signature(Method method) {
        List<String> types = new ArrayList<>();
        for (Class<?> type : method.getParameterTypes()) {
            types.add(type.getSimpleName());
        }
        return method.getReturnType().getSimpleName() + " " + method.getName()
                + "(" + String.join(",", types) + ")";
    }

    private static void faceIsTheDocuments() throws Exception {
        Class<?> type = RoundColumns.class;
        demand(Modifier.isPublic(type.getModifiers()) && Modifier.isFinal(type.getModifiers()),
                "the class is not public and final");
        Set<String> open = new TreeSet<>();
        for (Method method : type.getDeclaredMethods()) {
            if (Modifier.isPublic(method.getModifiers())) {
                open.add(signature(method));
                demand(!Modifier.isStatic(method.getModifiers()), method + " is static");
            }
        }
        demand(open.equals(new TreeSet<>(FACE)), "the public methods are " + open);
        Class<?>[] thrown = type.getMethod("run", int.class).getExceptionTypes();
        demand(Arrays.equals(thrown, new Class<?>[] {IllegalStateException.class}),
                "run() declares " + Arrays.toString(thrown));
        Field none = type.getField("NONE");
        demand(none.getType() == int.class && Modifier.isStatic(none.getModifiers())
                && Modifier.isFinal(none.getModifiers()), "NONE is no constant");
    }

    private static void nothingElseIsVisible() {
        Class<?> type = RoundColumns.class;
        Set<String> publicNames = new HashSet<>();
        for (Method method : type.getDeclaredMethods()) {
            int modifiers = method.getModifiers();
            if (Modifier.isPublic(modifiers)) {
                publicNames.add(method.getName());
            } else {
                demand(Modifier.isPrivate(modifiers), method + " is visible");
            }
        }
        for (Field field : type.getDeclaredFields()) {
            demand(Modifier.isPrivate(field.getModifiers()) || field.getName().equals("NONE"),
                    field + " is visible");
        }
        Constructor<?>[] constructors = type.getDeclaredConstructors();
        demand(constructors.length == 1 && constructors[0].getParameterCount() == 0
                && Modifier.isPublic(constructors[0].getModifiers()), "constructors are others");
        for (Class<?> inside : everyClass()) {
            for (Method method : inside.getDeclaredMethods()) {
                demand(Modifier.isPublic(method.getModifiers())
                        || !publicNames.contains(method.getName()), method + " bears its name");
            }
        }
    }

    private static List<Class<?>> everyClass() {
        List<Class<?>> classes = new ArrayList<>();
        classes.add(RoundColumns.class);
        classes.addAll(List.of(RoundColumns.class.getDeclaredClasses()));
        return classes;
    }

    private static void classesAreSmall() {
        demand(everyClass().size() <= 12, "there are more than twelve classes");
        for (Class<?> type : everyClass()) {
            demand(type == RoundColumns.class || Modifier.isStatic(type.getModifiers())
                    && !Modifier.isPublic(type.getModifiers())
                    && !Modifier.isProtected(type.getModifiers()), type + " is not static inside");
            int fields = 0;
            for (Field field : type.getDeclaredFields()) {
                boolean isStatic = Modifier.isStatic(field.getModifiers());
                fields += isStatic ? 0 : 1;
                demand(!isStatic || Modifier.isFinal(field.getModifiers()), field + " is state");
            }
            demand(fields <= 20, type + " has " + fields + " fields");
            for (Method method : type.getDeclaredMethods()) {
                demand(method.getParameterCount() <= 7, method + " takes too many");
            }
        }
    }

    private static String withoutComments(String source) {
        return source.replaceAll("(?s)/\\*.*?\\*/", "").replaceAll("//[^\\n]*", "");
    }

    private static void nothingRuledOut(String code) {
        for (String rule : RULED_OUT) {
            demand(!Pattern.compile(rule).matcher(code).find(), "the code has " + rule);
        }
        Matcher imports = Pattern.compile("import ([^;]+);").matcher(code);
        while (imports.find()) {
            demand(imports.group(1).equals("java.util.Arrays"), "imports " + imports.group(1));
        }
        Matcher thrown = Pattern.compile("throw [^;]*;").matcher(code);
        while (thrown.find()) {
            demand(thrown.group().matches("throw new IllegalStateException\\(\"[^\"]*\"\\);"),
                    "it throws otherwise: " + thrown.group());
        }
    }

    /** A method begins in a line that ends with ") {" or "Exception {", indented by 4 or 8. */
    private static void methodsAreShort(String code) {
        Pattern head = Pattern.compile("(?m)^( {4}| {8})(?! )[^\\n]*(\\)|Exception) \\{$");
        Matcher heads = head.matcher(code);
        int methods = 0;
        while (heads.find()) {
            int end = code.indexOf("\n" + heads.group(1) + "}", heads.end());
            long lines = code.substring(heads.start(), end).lines().count();
            methods++;
            demand(lines < MOST_LINES_OF_METHOD, heads.group() + " has " + lines + " lines");
        }
        demand(methods >= FACE.size(), "only " + methods + " methods were looked at");
    }

    private static RoundColumns full() {
        RoundColumns x = new RoundColumns();
        for (int b = 0; b < 6; b++) {
            x.bin(1 + b, b);
        }
        for (int a = 0; a < 7; a++) {
            for (int b = 0; b < 7; b++) {
                x.way(a, b, (a * 3 + b) % 5, (a * 7 + b * b) % 11);
            }
        }
        x.vehicle(12, 100, 3);
        return x;
    }

    private static long useAll(RoundColumns x) {
        long sum = x.run(192) + x.steps() + x.columns() + x.cuts() + x.check();
        sum += x.labelsClosed() ? 1 : 0;
        for (int k = 0; k < x.columns(); k++) {
            sum += x.column(k, 0) + x.used(k, 0) + x.share(k, 1) + x.cut(k, 0);
            sum += x.dual(k, 0) + x.bound(0) + (x.dropped(k) ? 1 : 0);
        }
        x.branch(0, 1, sum % 2 == 0);
        x.vehicle(12, 100, 3);
        x.clear();
        return sum;
    }

    private static long allocated() {
        return ((com.sun.management.ThreadMXBean)
                java.lang.management.ManagementFactory.getThreadMXBean())
                .getCurrentThreadAllocatedBytes();
    }

    private static void callsMakeNothing() {
        RoundColumns x = full();
        useAll(x);
        allocated();
        long before = allocated();
        long sum = useAll(x);
        long made = allocated() - before;
        demand(made < 1000 && sum != 0, "calls after the constructor made " + made + " bytes");
    }

    private static void objectsAreSmall() {
        new RoundColumns();
        allocated();
        long before = allocated();
        RoundColumns x = new RoundColumns();
        long made = allocated() - before;
        demand(made < 8 * MOST_CELLS_OF_OBJECT && x.steps() == 0,
                "an object has " + made + " bytes");
    }
}
