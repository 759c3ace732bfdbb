import java.io.IOException;
import java.lang.management.ManagementFactory;
import java.lang.reflect.Constructor;
import java.lang.reflect.Field;
import java.lang.reflect.Method;
import java.lang.reflect.Modifier;
import java.nio.file.Files;
import java.nio.file.Path;
import java.util.Arrays;
import java.util.List;
import java.util.Set;
import java.util.TreeSet;
import java.util.regex.Matcher;
import java.util.regex.Pattern;
import java.util.stream.Collectors;

/** The rules of ../shared/LANGUAGE.md that can be seen from the class or from its text. */
public final class LanguageTest {
    private static final Check CHECK = new Check();
    private static final Path PROGRAM = Path.of("src/main/java/TurnWheel.java");
    private static final Path DOCUMENT = Path.of("../shared/DOC.md");

    public static void main(String[] args) throws IOException {
        face();
        classesInside();
        text();
        lengths();
        objectsMade();
        CHECK.finish();
    }

    private static String named(Method m) {
        return Modifier.toString(m.getModifiers()) + " " + m.getReturnType() + " " + m.getName()
                + Arrays.toString(m.getParameterTypes()) + Arrays.toString(m.getExceptionTypes());
    }

    /** The lines of the document's face are compared as they stand, so that nothing is told twice. */
    private static void face() throws IOException {
        Set<String> due = new TreeSet<>();
        Matcher m = Pattern.compile("    public (\\w+) (\\w+)\\(([^)]*)\\)( throws ([^;]+))?;")
                .matcher(Files.readString(DOCUMENT));
        while (m.find()) {
            String types = m.group(3).isEmpty() ? "" : Arrays.stream(m.group(3).split(", "))
                    .map(p -> p.split(" ")[0]).collect(Collectors.joining(", "));
            String thrown = m.group(5) == null ? "" : Arrays.stream(m.group(5).split(", "))
                    .map(e -> "class java.lang." + e).collect(Collectors.joining(", "));
            due.add("public " + m.group(1) + " " + m.group(2) + "[" + types + "][" + thrown + "]");
        }
        Set<String> got = new TreeSet<>();
        for (Method method : TurnWheel.class.getDeclaredMethods()) {
            if (!Modifier.isPrivate(method.getModifiers())) {
                got.add(named(method));
            }
        }
        CHECK.yes("the document has a face", due.size() > 40);
        CHECK.same("the face", got.toString(), due.toString());
        CHECK.yes("public and final", Modifier.isPublic(TurnWheel.class.getModifiers())
                && Modifier.isFinal(TurnWheel.class.getModifiers()));
        Constructor<?>[] constructors = TurnWheel.class.getDeclaredConstructors();
        CHECK.same("one constructor", constructors.length, 1);
        CHECK.same("without arguments", constructors[0].getParameterCount(), 0);
        for (Field f : TurnWheel.class.getDeclaredFields()) {
            CHECK.yes("field " + f.getName(), f.getName().equals("NONE") == !Modifier.isPrivate(f.getModifiers()));
        }
    }

    private static void classesInside() {
        Set<String> face = Arrays.stream(TurnWheel.class.getMethods()).map(Method::getName)
                .collect(Collectors.toSet());
        Class<?>[] inside = TurnWheel.class.getDeclaredClasses();
        CHECK.yes("some twelve classes", inside.length <= 12);
        for (Class<?> c : inside) {
            CHECK.yes(c + " is static and hidden", Modifier.isStatic(c.getModifiers())
                    && !Modifier.isPublic(c.getModifiers()));
            for (Method m : c.getDeclaredMethods()) {
                CHECK.yes(m + " bears no public name", !face.contains(m.getName()));
                CHECK.yes(m + " takes seven at most", m.getParameterCount() <= 7);
            }
            fields(c);
        }
        for (Method m : TurnWheel.class.getDeclaredMethods()) {
            CHECK.yes(m + " bears no public name", !Modifier.isPrivate(m.getModifiers()) || !face.contains(m.getName()));
        }
        fields(TurnWheel.class);
    }

    private static void fields(Class<?> c) {
        int own = 0;
        for (Field f : c.getDeclaredFields()) {
            boolean isStatic = Modifier.isStatic(f.getModifiers());
            own += isStatic ? 0 : 1;
            CHECK.yes(f + " is a constant", !isStatic || Modifier.isFinal(f.getModifiers())
                    && (f.getType().isPrimitive() || f.getType() == String.class));
        }
        CHECK.yes("some twenty fields in " + c, own <= 20);
    }

    private static void text() throws IOException {
        String all = Files.readString(PROGRAM);
        CHECK.yes("signs 1 to 126 alone", all.chars().allMatch(c -> c == '\n' || c >= 32 && c < 127));
        String code = all.replaceAll("/\\*(?s:.*?)\\*/", "").replaceAll("//[^\n]*", "")
                .replaceAll("\"[^\"\n]*\"", "\"\"");
        for (String word : List.of("import", "package", "try", "catch", "finally", "synchronized", "assert",
                "instanceof", "record", "enum", "volatile", "native", "System", "Object", "hashCode", "toString",
                "ordinal", "float\\[", "null", "Exact", "void main", "yield", "var")) {
            CHECK.yes("no " + word, !Pattern.compile("\\b" + word + (word.endsWith("[") ? "" : "\\b")).matcher(code)
                    .find());
        }
        CHECK.yes("no lambda", !code.contains("->"));
        CHECK.yes("no method reference", !code.contains("::"));
        CHECK.yes("no joining of texts by +", !code.contains("\"\" +") && !code.contains("+ \"\""));
        Matcher thrown = Pattern.compile("throw ([^;]*);").matcher(code);
        while (thrown.find()) {
            CHECK.yes(thrown.group(), thrown.group(1)
                    .matches("new (IllegalArgument|IllegalState|IndexOutOfBounds)Exception\\(\"\"\\)"));
        }
        Matcher math = Pattern.compile("Math\\.(\\w+)").matcher(code);
        while (math.find()) {
            CHECK.yes(math.group(), math.group(1).equals("min") || math.group(1).equals("max"));
        }
    }

    private static void lengths() throws IOException {
        List<String> lines = Files.readAllLines(PROGRAM);
        int from = -1;
        for (int i = 0; i < lines.size(); i++) {
            String line = lines.get(i);
            CHECK.yes("line " + (i + 1) + " is of 120 signs at most", line.length() <= 120);
            if (line.matches("    (    )?\\S.*\\).*\\{")) {
                from = i;
            }
            if (from >= 0 && line.matches("    (    )?\\}")) {
                CHECK.yes("the method of line " + (from + 1) + " is short", i - from <= 60);
                from = -1;
            }
        }
    }

    /** What a run makes is counted; so no call makes an object (an exception that it throws is one). */
    private static void objectsMade() {
        com.sun.management.ThreadMXBean bean = (com.sun.management.ThreadMXBean) ManagementFactory.getThreadMXBean();
        TurnWheel x = Check.of("wheel 100;fighter a left speed 50 life 900 plan guard 5;"
                + "fighter c left speed 50 life 900 plan lift 5;fighter b right speed 50 life 900 plan guard 5;");
        long thread = Thread.currentThread().getId();
        long made = Long.MAX_VALUE;
        for (int round = 0; round < 20; round++) {
            long before = bean.getThreadAllocatedBytes(thread);
            everyCall(x);
            made = Math.min(made, bean.getThreadAllocatedBytes(thread) - before);
        }
        CHECK.yes("bytes that calls make: " + made, made < 64);
    }

    private static void everyCall(TurnWheel x) {
        // "lift a 5;" and spaces
        x.feed(0x6c696674, 0x20612035, 0x3b202020, 0x20202020, 0x20202020);
        x.truncate(9);
        x.runScript();
        x.setting(4);
        x.fighter(0, 4);
        x.actKind(0, 0);
        x.actNumber(0, 0);
        x.letter(0, 0);
        x.ticksTo(0);
        x.row(1);
        x.meanSpeed();
        x.share();
        x.turn(9);
        x.turnTime(9);
        x.turnKind(9);
        x.lifeIn(0, 9);
        x.gaugeIn(0, 9);
        x.turnsOf(0, 9);
        x.longestRun(9);
        x.endsIn();
        x.winner();
        x.firstLoss(0);
        x.repeatIn();
        x.cycle();
        x.leastSpeed(0);
        x.bestPush(0, 9);
        x.bestSwap(0);
        x.bestPlace(0);
        x.save();
        x.play(9);
        x.push(0, 9);
        x.lift(0, 9);
        x.extra(0);
        x.setSpeed(0, 9);
        x.heal(0, 9);
        x.setWheel(120);
        x.setAct(0, 0, 3, 9);
        x.report();
        x.reportByte(0);
        x.undo();
        x.restore();
    }
}
