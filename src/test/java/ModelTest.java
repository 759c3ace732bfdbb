import java.nio.charset.StandardCharsets;
import java.util.Random;
import java.util.function.Supplier;

/** Long runs of calls that are drawn by lot, on the program and on the model: both must answer the same. */
public final class ModelTest {
    private static final String[] NAMES = {"ann", "bob", "cy", "dee", "eve", "fay", "gus", "hal", "wheel", "plan",
        "fighter", "lefthand", "a", "b"};
    private static final String[] WORDS = {"turn", "push", "lift", "extra", "speed", "heal", "wheel", "act", "repeat"};
    private static final String[] BITS = {";", "(", ")", "wheel", "fighter", "left", "right", "speed", "life", "luck",
        "plan", "hit", "push", "lift", "guard", "again", "rest", "turn", "repeat", "act", "extra", "heal", "0", "1",
        "3", "4", "20", "21", "99", "100", "999", "1000", "abcdefghi", "A", "\t", "\n", " ", "ann", "bob", "zed",
        "\u00e9", "0001", "007"};

    /** What later calls of an object answer is free. */
    private static final int MOST_CALLS = 512;

    private final Random lot;
    private final StringBuilder told = new StringBuilder();
    private TurnWheel x = new TurnWheel();
    private Model m = new Model();
    /** A fight with few hits and without rests, so that all comes again in many of them. */
    private boolean calm = false;
    private int made = 0;

    private ModelTest(long seed) {
        lot = new Random(seed);
    }

    public static void main(String[] args) {
        int runs = args.length > 0 ? Integer.parseInt(args[0]) : 400;
        long from = args.length > 1 ? Long.parseLong(args[1]) : 0;
        int calls = 0;
        for (long seed = from; seed < from + runs; seed++) {
            calls += new ModelTest(seed).run();
        }
        System.out.println(calls + " calls answered as the model does");
    }

    private int run() {
        load(text());
        while (made < MOST_CALLS) {
            call();
        }
        return made;
    }

    private static String answer(Supplier<Object> call) {
        try {
            return String.valueOf(call.get());
        } catch (RuntimeException e) {
            return "throws." + e.getClass().getSimpleName();
        }
    }

    private void both(String what, Supplier<Object> program, Supplier<Object> model) {
        if (made == MOST_CALLS) {
            return;
        }
        made++;
        String got = answer(program);
        String due = answer(model);
        told.append(what).append(" -> ").append(got).append('\n');
        if (!got.equals(due)) {
            System.out.println(told + "due is " + due);
            System.exit(1);
        }
    }

    private int below(int n) {
        return lot.nextInt(n);
    }

    private boolean chance(int percent) {
        return below(100) < percent;
    }

    private int number(int least, int most) {
        if (chance(4)) {
            int[] edges = {least - 1, least, most, most + 1, -1, 0, Integer.MIN_VALUE, Integer.MAX_VALUE};
            return edges[below(edges.length)];
        }
        return least + below(most - least + 1);
    }

    private String pick(String[] of) {
        return of[below(of.length)];
    }

    private String act() {
        int kind = chance(calm ? 5 : 40) ? 0 : below(7);
        if (calm && kind == 6) {
            kind = 1;
        }
        int most = Model.MOST[kind];
        int n = chance(3) ? 1 + below(most) : 1 + below(Math.min(most, kind == 0 || kind == 6 ? 25 : 200));
        return Model.ACTS.get(kind) + " " + n;
    }

    private String text() {
        StringBuilder all = new StringBuilder();
        calm = chance(30);
        int fighters = chance(70) ? 2 + below(4) : below(9);
        int wheelAt = chance(70) ? below(fighters + 1) : -1;
        int first = below(NAMES.length);
        int life = chance(30) ? 999 : 5 + below(200);
        boolean mixed = chance(20);
        for (int i = 0; i <= fighters; i++) {
            if (i == wheelAt) {
                all.append("wheel ").append(100 + (chance(60) ? below(100) : below(900))).append(";");
            }
            if (i < fighters) {
                all.append("fighter ").append(NAMES[(first + i) % NAMES.length])
                        .append((mixed ? chance(50) : i % 2 == 0) ? " left" : " right")
                        .append(" speed").append(1 + below(chance(50) ? 20 : 99))
                        .append(" life").append(1 + below(life));
                if (chance(40)) {
                    all.append(" luck").append(below(10));
                }
                all.append(" plan");
                int acts = 1 + below(fighters > 5 ? 2 : 6);
                for (int k = 0; k < acts; k++) {
                    all.append(' ').append(act());
                }
                all.append(";");
            }
        }
        return spoilt(all.toString(), 8);
    }

    private String spoilt(String text, int percent) {
        StringBuilder all = new StringBuilder(text);
        while (chance(percent)) {
            int at = below(all.length() + 1);
            int to = Math.min(all.length(), at + below(8));
            all.replace(at, chance(50) ? to : at, chance(70) ? pick(BITS) : "");
        }
        return all.toString();
    }

    private String script() {
        StringBuilder all = new StringBuilder();
        commands(all, 0, new int[1]);
        return spoilt(all.toString(), 12);
    }

    private void commands(StringBuilder all, int depth, int[] told) {
        int n = chance(5) ? 25 + below(8) : below(7);
        for (int i = 0; i < n && told[0] < 32; i++) {
            told[0]++;
            String word = pick(WORDS);
            all.append(word);
            if (word.equals("repeat")) {
                all.append(' ').append(chance(3) ? 21 * below(2) : 1 + below(20)).append("(");
                if (depth < 2 || chance(10)) {
                    commands(all, depth + 1, told);
                }
                all.append(")");
            } else {
                if (!word.equals("turn") && !word.equals("wheel")) {
                    all.append(' ').append(knownName());
                }
                if (!word.equals("extra")) {
                    all.append(' ').append(scriptNumber(word));
                }
                if (word.equals("act")) {
                    all.append(act());
                }
            }
            all.append(";");
        }
    }

    private int scriptNumber(String word) {
        switch (word) {
            case "turn": return chance(95) ? 1 + below(9) : below(120);
            case "speed": return chance(95) ? 1 + below(99) : below(120);
            case "wheel": return chance(95) ? 100 + below(900) : below(1000);
            case "act": return below(chance(90) ? 2 : 7);
            default: return chance(95) ? 1 + below(100) : below(1000);
        }
    }

    private String knownName() {
        if (m.s.all.isEmpty() || chance(2)) {
            return pick(NAMES);
        }
        return m.s.all.get(below(m.s.all.size())).name;
    }

    private void fill(String text) {
        byte[] bytes = text.getBytes(StandardCharsets.ISO_8859_1);
        both("truncate(0)", () -> x.truncate(0), () -> m.truncate(0));
        for (int i = 0; i < bytes.length; i += 20) {
            int[] w = new int[5];
            for (int k = 0; k < 20; k++) {
                w[k / 4] = w[k / 4] << 8 | (i + k < bytes.length ? bytes[i + k] & 255 : 0);
            }
            both("feed(..)", () -> x.feed(w[0], w[1], w[2], w[3], w[4]), () -> m.feed(w[0], w[1], w[2], w[3], w[4]));
        }
        int length = Math.min(bytes.length, 600);
        both("truncate(" + length + ")", () -> x.truncate(length), () -> m.truncate(length));
        told.append(text).append('\n');
    }

    private void load(String text) {
        fill(text);
        both("readText()", () -> x.readText(), () -> m.readText());
        error();
    }

    private void error() {
        both("errorCode()", () -> x.errorCode(), () -> m.code);
        both("errorPosition()", () -> x.errorPosition(), () -> m.position);
    }

    private int who() {
        return chance(3) || m.s.all.isEmpty() ? number(0, 8) : below(m.s.all.size());
    }

    private void call() {
        int c = below(100);
        if (c < 35) {
            change();
        } else if (c < 75) {
            ask();
        } else {
            whole();
        }
        look();
    }

    private void change() {
        int f = who();
        int by = number(1, chance(80) ? 150 : 999);
        switch (below(8)) {
            case 0: {
                int n = chance(90) ? number(1, 12) : number(1, 99);
                both("play(" + n + ")", () -> x.play(n), () -> m.play(n));
                break;
            }
            case 1:
                both("push(" + f + "," + by + ")", () -> x.push(f, by), () -> m.push(f, by));
                break;
            case 2:
                both("lift(" + f + "," + by + ")", () -> x.lift(f, by), () -> m.lift(f, by));
                break;
            case 3:
                both("extra(" + f + ")", () -> x.extra(f), () -> m.extra(f));
                break;
            case 4: {
                int n = number(1, 99);
                both("setSpeed(" + f + "," + n + ")", () -> x.setSpeed(f, n), () -> m.setSpeed(f, n));
                break;
            }
            case 5:
                both("heal(" + f + "," + by + ")", () -> x.heal(f, by), () -> m.heal(f, by));
                break;
            case 6: {
                int n = chance(60) ? number(100, 200) : number(100, 999);
                both("setWheel(" + n + ")", () -> x.setWheel(n), () -> m.setWheel(n));
                break;
            }
            default: {
                int i = number(0, 2);
                int kind = number(0, 6);
                int n = chance(20) ? number(1, 999) : number(1, kind == 4 ? 3 : 99);
                both("setAct(" + f + "," + i + "," + kind + "," + n + ")", () -> x.setAct(f, i, kind, n),
                        () -> m.setAct(f, i, kind, n));
                break;
            }
        }
    }

    private void ask() {
        int f = who();
        int i = number(0, 99);
        int turns = chance(50) ? number(0, 20) : number(0, 200);
        switch (below(18)) {
            case 0: both("turn(" + i + ")", () -> x.turn(i), () -> m.turn(i)); break;
            case 1: both("turnTime(" + i + ")", () -> x.turnTime(i), () -> m.turnTime(i)); break;
            case 2: both("turnKind(" + i + ")", () -> x.turnKind(i), () -> m.turnKind(i)); break;
            case 3: both("lifeIn(" + f + "," + turns + ")", () -> x.lifeIn(f, turns), () -> m.lifeIn(f, turns)); break;
            case 4: both("gaugeIn(" + f + "," + turns + ")", () -> x.gaugeIn(f, turns), () -> m.gaugeIn(f, turns)); break;
            case 5: both("turnsOf(" + f + "," + turns + ")", () -> x.turnsOf(f, turns), () -> m.turnsOf(f, turns)); break;
            case 6: both("longestRun(" + turns + ")", () -> x.longestRun(turns), () -> m.longestRun(turns)); break;
            case 7: both("endsIn()", () -> x.endsIn(), () -> m.endsIn()); break;
            case 8: both("winner()", () -> x.winner(), () -> m.winner()); break;
            case 9: both("firstLoss(" + f + ")", () -> x.firstLoss(f), () -> m.firstLoss(f)); break;
            case 10: both("repeatIn()", () -> x.repeatIn(), () -> m.repeatIn()); break;
            case 11: both("cycle()", () -> x.cycle(), () -> m.cycle()); break;
            case 12: both("leastSpeed(" + f + ")", () -> x.leastSpeed(f), () -> m.leastSpeed(f)); break;
            case 13:
            case 14: {
                int side = number(0, 1);
                int by = number(1, chance(70) ? 200 : 999);
                both("bestPush(" + side + "," + by + ")", () -> x.bestPush(side, by), () -> m.bestPush(side, by));
                break;
            }
            case 15:
            case 16: both("bestSwap(" + f + ")", () -> x.bestSwap(f), () -> m.bestSwap(f)); break;
            default: both("bestPlace(" + f + ")", () -> x.bestPlace(f), () -> m.bestPlace(f)); break;
        }
    }

    private void whole() {
        switch (below(9)) {
            case 0:
            case 1:
            case 2:
                fill(script());
                both("runScript()", () -> x.runScript(), () -> m.runScript());
                error();
                break;
            case 3:
            case 4: both("undo()", () -> x.undo(), () -> m.undo()); break;
            case 5: both("save()", () -> x.save(), () -> m.save()); break;
            case 6:
                if (chance(40)) {
                    both("restore()", () -> x.restore(), () -> m.restore());
                }
                break;
            case 7:
                if (chance(25)) {
                    load(text());
                }
                break;
            default: report(); break;
        }
    }

    private void report() {
        both("report()", () -> x.report(), () -> m.report());
        for (int i = -1; i <= m.report.length(); i++) {
            int at = i;
            both("reportByte(" + i + ")", () -> x.reportByte(at), () -> m.reportByte(at));
        }
    }

    /** A few numbers of what is there. */
    private void look() {
        for (int n = 0; n < 4; n++) {
            int f = who();
            int k = number(0, 11);
            switch (below(4)) {
                case 0: both("setting(" + k + ")", () -> x.setting(k), () -> m.setting(k)); break;
                case 1: lookAtPlan(f, below(8) - 1); break;
                default: both("fighter(" + f + "," + k + ")", () -> x.fighter(f, k), () -> m.fighter(f, k)); break;
            }
        }
        int i = number(0, 7);
        switch (below(4)) {
            case 0: both("row(" + i + ")", () -> x.row(i), () -> m.row(i)); break;
            case 1: both("ticksTo(" + i + ")", () -> x.ticksTo(i), () -> m.ticksTo(i)); break;
            case 2: both("meanSpeed()", () -> x.meanSpeed(), () -> m.meanSpeed()); break;
            default: both("share()", () -> x.share(), () -> m.share()); break;
        }
    }

    private void lookAtPlan(int f, int i) {
        switch (below(3)) {
            case 0: both("actKind(" + f + "," + i + ")", () -> x.actKind(f, i), () -> m.actKind(f, i)); break;
            case 1: both("actNumber(" + f + "," + i + ")", () -> x.actNumber(f, i), () -> m.actNumber(f, i)); break;
            default: both("letter(" + f + "," + i + ")", () -> x.letter(f, i), () -> m.letter(f, i)); break;
        }
    }
}
