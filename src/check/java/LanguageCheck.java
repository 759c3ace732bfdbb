import java.io.IOException;
import java.io.PrintWriter;
import java.io.StringWriter;
import java.lang.management.ManagementFactory;
import java.lang.reflect.Constructor;
import java.lang.reflect.Field;
import java.lang.reflect.Method;
import java.lang.reflect.Modifier;
import java.nio.file.Files;
import java.nio.file.Path;
import java.util.Arrays;
import java.util.List;
import java.util.Map;
import java.util.Set;
import java.util.TreeMap;
import java.util.TreeSet;
import java.util.regex.Matcher;
import java.util.regex.Pattern;
import java.util.spi.ToolProvider;
import java.util.stream.Collectors;

/**
 * The rules of ../shared/LANGUAGE.md that can be seen from the class or from its text. It looks at how the class is
 * made and not at what its calls answer, so it is no test of the project: see .ci/language.
 */
public final class LanguageCheck {
    private static final Path PROGRAM = Path.of("src/main/java/TurnWheel.java");
    private static final Path DOCUMENT = Path.of("../shared/DOC.md");
    private static final int MOST_DEEP = 8;

    private static int asked = 0;
    private static int wrong = 0;
    private static final Map<String, Set<String>> CALLS = new TreeMap<>();

    public static void main(String[] args) throws IOException {
        face();
        classesInside();
        text();
        lengths();
        objectsMade();
        depths();
        System.out.println(asked + " looks at the rules, " + wrong + " wrong");
        if (wrong != 0) {
            System.exit(1);
        }
    }

    private static void yes(String what, boolean got) {
        asked++;
        if (!got) {
            wrong++;
            System.out.println("not so: " + what);
        }
    }

    private static void same(String what, Object got, Object due) {
        yes(what + ": " + got + ", due is " + due, got.equals(due));
    }

    private static String named(Method m) {
        return Modifier.toString(m.getModifiers()) + " " + m.getReturnType() + " " + m.getName()
                + Arrays.toString(m.getParameterTypes()) + Arrays.toString(m.getExceptionTypes());
    }

    /** The lines of the document's face are compared as they stand, so that nothing is told twice. */
    private static void face() throws IOException {
        Set<String> due = new TreeSet<>();
        Matcher m = Pattern.compile("    public (\\w+) (\\w+)\\(([^)]*)\\)( throws ([^;]+))?;")
                .matcher(Files.readString(DOCUMENT));
        while (m.find()) {
            String types = m.group(3).isEmpty() ? "" : Arrays.stream(m.group(3).split(", "))
                    .map(p -> p.split(" ")[0]).collect(Collectors.joining(", "));
            String thrown = m.group(5) == null ? "" : Arrays.stream(m.group(5).split(", "))
                    .map(e -> "class java.lang." + e).collect(Collectors.joining(", "));
            due.add("public " + m.group(1) + " " + m.group(2) + "[" + types + "][" + thrown + "]");
        }
        Set<String> got = new TreeSet<>();
        for (Method method : TurnWheel.class.getDeclaredMethods()) {
            if (!Modifier.isPrivate(method.getModifiers())) {
                got.add(named(method));
            }
        }
        yes("the document has a face", due.size() > 40);
        same("the face", got.toString(), due.toString());
        yes("public and final", Modifier.isPublic(TurnWheel.class.getModifiers())
                && Modifier.isFinal(TurnWheel.class.getModifiers()));
        Constructor<?>[] constructors = TurnWheel.class.getDeclaredConstructors();
        same("one constructor", constructors.length, 1);
        same("without arguments", constructors[0].getParameterCount(), 0);
        for (Field f : TurnWheel.class.getDeclaredFields()) {
            yes("field " + f.getName(), f.getName().equals("NONE") == !Modifier.isPrivate(f.getModifiers()));
        }
    }

    private static void classesInside() {
        Set<String> face = Arrays.stream(TurnWheel.class.getMethods()).map(Method::getName)
                .collect(Collectors.toSet());
        Class<?>[] inside = TurnWheel.class.getDeclaredClasses();
        yes("some twelve classes", inside.length <= 12);
        for (Class<?> c : inside) {
            yes(c + " is static and hidden", Modifier.isStatic(c.getModifiers())
                    && !Modifier.isPublic(c.getModifiers()));
            for (Method m : c.getDeclaredMethods()) {
                yes(m + " bears no public name", !face.contains(m.getName()));
                yes(m + " takes seven at most", m.getParameterCount() <= 7);
            }
            fields(c);
        }
        for (Method m : TurnWheel.class.getDeclaredMethods()) {
            yes(m + " bears no public name", !Modifier.isPrivate(m.getModifiers()) || !face.contains(m.getName()));
        }
        fields(TurnWheel.class);
    }

    private static void fields(Class<?> c) {
        int own = 0;
        for (Field f : c.getDeclaredFields()) {
            boolean isStatic = Modifier.isStatic(f.getModifiers());
            own += isStatic ? 0 : 1;
            yes(f + " is a constant", !isStatic || Modifier.isFinal(f.getModifiers())
                    && (f.getType().isPrimitive() || f.getType() == String.class));
        }
        yes("some twenty fields in " + c, own <= 20);
    }

    private static void text() throws IOException {
        String all = Files.readString(PROGRAM);
        yes("signs 1 to 126 alone", all.chars().allMatch(c -> c == '\n' || c >= 32 && c < 127));
        String code = all.replaceAll("/\\*(?s:.*?)\\*/", "").replaceAll("//[^\n]*", "")
                .replaceAll("\"[^\"\n]*\"", "\"\"");
        for (String word : List.of("import", "package", "try", "catch", "finally", "synchronized", "assert",
                "instanceof", "record", "enum", "volatile", "native", "System", "Object", "hashCode", "toString",
                "ordinal", "float\\[", "null", "Exact", "void main", "yield", "var")) {
            yes("no " + word, !Pattern.compile("\\b" + word + (word.endsWith("[") ? "" : "\\b")).matcher(code)
                    .find());
        }
        yes("no lambda", !code.contains("->"));
        yes("no method reference", !code.contains("::"));
        yes("no joining of texts by +", !code.contains("\"\" +") && !code.contains("+ \"\""));
        Matcher thrown = Pattern.compile("throw ([^;]*);").matcher(code);
        while (thrown.find()) {
            yes(thrown.group(), thrown.group(1)
                    .matches("new (IllegalArgument|IllegalState|IndexOutOfBounds)Exception\\(\"\"\\)"));
        }
        Matcher math = Pattern.compile("Math\\.(\\w+)").matcher(code);
        while (math.find()) {
            yes(math.group(), math.group(1).equals("min") || math.group(1).equals("max"));
        }
    }

    private static void lengths() throws IOException {
        List<String> lines = Files.readAllLines(PROGRAM);
        int from = -1;
        for (int i = 0; i < lines.size(); i++) {
            String line = lines.get(i);
            yes("line " + (i + 1) + " is of 120 signs at most", line.length() <= 120);
            if (line.matches("    (    )?\\S.*\\).*\\{")) {
                from = i;
            }
            if (from >= 0 && line.matches("    (    )?\\}")) {
                yes("the method of line " + (from + 1) + " is short", i - from <= 60);
                from = -1;
            }
        }
    }

    /** What a run makes is counted; so no call makes an object (an exception that it throws is one). */
    private static void objectsMade() {
        com.sun.management.ThreadMXBean bean = (com.sun.management.ThreadMXBean) ManagementFactory.getThreadMXBean();
        TurnWheel x = new TurnWheel();
        // "fighter a left speed50life999plan guard 5;fighter b right speed50life999plan lift 9;" and spaces
        x.feed(0x66696768, 0x74657220, 0x61206c65, 0x66742073, 0x70656564);
        x.feed(0x35306c69, 0x66653939, 0x39706c61, 0x6e206775, 0x61726420);
        x.feed(0x353b6669, 0x67687465, 0x72206220, 0x72696768, 0x74207370);
        x.feed(0x65656435, 0x306c6966, 0x65393939, 0x706c616e, 0x206c6966);
        x.feed(0x7420393b, 0x20202020, 0x20202020, 0x20202020, 0x20202020);
        x.readText();
        long thread = Thread.currentThread().getId();
        long made = Long.MAX_VALUE;
        for (int round = 0; round < 12; round++) {
            long before = bean.getThreadAllocatedBytes(thread);
            everyCall(x);
            made = Math.min(made, bean.getThreadAllocatedBytes(thread) - before);
        }
        yes("bytes that calls make: " + made, made < 64);
    }

    /** Calls go eight deep at the most, those of the library counted; recursion would be told as too deep. */
    private static void depths() {
        String classes = Arrays.stream(TurnWheel.class.getDeclaredClasses()).map(Class::getName)
                .collect(Collectors.joining(" "));
        StringWriter told = new StringWriter();
        String[] args = ("-c -p -cp " + System.getProperty("java.class.path") + " TurnWheel " + classes).split(" ");
        ToolProvider.findFirst("javap").orElseThrow().run(new PrintWriter(told), new PrintWriter(told), args);
        String inside = "";
        String method = "";
        for (String line : told.toString().split("\n")) {
            Matcher type = Pattern.compile(".*\\bclass (\\S+) .*\\{").matcher(line);
            Matcher start = Pattern.compile("  (?:\\S.* )?([\\w$]+)\\(.*\\).*;").matcher(line);
            Matcher call = Pattern.compile(".*// (?:Interface)?Method ([^:]+):.*").matcher(line);
            if (type.matches()) {
                inside = type.group(1);
            } else if (start.matches()) {
                method = inside + "." + start.group(1).replace(inside, "\"<init>\"");
            } else if (call.matches()) {
                String called = call.group(1).replace('/', '.');
                CALLS.computeIfAbsent(method, m -> new TreeSet<>())
                        .add(called.contains(".") ? called : inside + "." + called);
            }
        }
        yes("calls are seen", CALLS.size() > 100);
        for (String from : CALLS.keySet()) {
            yes("calls from " + from + " go too deep: " + depth(from, 0), depth(from, 0) <= MOST_DEEP);
        }
    }

    private static int depth(String method, int above) {
        int most = 0;
        if (above <= MOST_DEEP) {
            for (String called : CALLS.getOrDefault(method, Set.of())) {
                most = Math.max(most, depth(called, above + 1));
            }
        }
        return 1 + most;
    }

    private static void everyCall(TurnWheel x) {
        // "lift a 5;" and spaces
        x.feed(0x6c696674, 0x20612035, 0x3b202020, 0x20202020, 0x20202020);
        x.truncate(9);
        x.runScript();
        x.setting(4);
        x.fighter(0, 4);
        x.actKind(0, 0);
        x.actNumber(0, 0);
        x.letter(0, 0);
        x.ticksTo(0);
        x.row(1);
        x.meanSpeed();
        x.share();
        x.turn(9);
        x.turnTime(9);
        x.turnKind(9);
        x.lifeIn(0, 9);
        x.gaugeIn(0, 9);
        x.turnsOf(0, 9);
        x.longestRun(9);
        x.endsIn();
        x.winner();
        x.firstLoss(0);
        x.repeatIn();
        x.cycle();
        x.leastSpeed(0);
        x.bestPush(0, 9);
        x.bestSwap(0);
        x.bestPlace(0);
        x.save();
        x.play(9);
        x.push(0, 9);
        x.lift(0, 9);
        x.extra(0);
        x.setSpeed(0, 9);
        x.heal(0, 9);
        x.setWheel(120);
        x.setAct(0, 0, 3, 9);
        x.report();
        x.reportByte(0);
        x.undo();
        x.restore();
    }
}
