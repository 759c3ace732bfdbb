import java.util.ArrayDeque;
import java.util.ArrayList;
import java.util.Arrays;
import java.util.Comparator;
import java.util.Deque;
import java.util.List;
import java.util.function.Consumer;
import java.util.function.ToIntFunction;
import java.util.regex.Matcher;
import java.util.regex.Pattern;
import java.util.stream.Collectors;

/** The document once more, told as slowly and directly as it can be: tick by tick, copy by copy. */
final class Model {
    static final int NONE = -1;
    static final List<String> ACTS = List.of("hit", "push", "lift", "guard", "again", "speed", "rest");
    static final int[] MOST = {99, 999, 999, 99, 3, 99, 99};

    static final class F {
        String name;
        int no, side, speed, life, luck, gauge, guard, extra, place, turns, extraTurns, harm;
        List<int[]> plan = new ArrayList<>();

        F copy() {
            F f = new F();
            f.name = name; f.no = no; f.side = side; f.speed = speed; f.life = life; f.luck = luck;
            f.gauge = gauge; f.guard = guard; f.extra = extra; f.place = place;
            f.turns = turns; f.extraTurns = extraTurns; f.harm = harm;
            for (int[] act : plan) {
                f.plan.add(act.clone());
            }
            return f;
        }

        boolean lives() {
            return life > 0;
        }
    }

    static final class S {
        List<F> all = new ArrayList<>();
        int wheel = 300, time, turns;

        S copy() {
            S s = new S();
            for (F f : all) {
                s.all.add(f.copy());
            }
            s.wheel = wheel; s.time = time; s.turns = turns;
            return s;
        }

        List<F> living(int side) {
            return all.stream().filter(f -> f.lives() && (side < 0 || f.side == side)).collect(Collectors.toList());
        }

        boolean over() {
            return living(0).isEmpty() || living(1).isEmpty();
        }

        int won() {
            return !over() || living(-1).isEmpty() ? NONE : living(0).isEmpty() ? 1 : 0;
        }

        int life(int side) {
            return living(side).stream().mapToInt(f -> f.life).sum();
        }

        F next() {
            while (true) {
                for (F f : all) {
                    if (f.lives() && f.extra > 0) {
                        return f;
                    }
                }
                List<F> ready = living(-1).stream().filter(f -> f.gauge >= wheel).collect(Collectors.toList());
                if (!ready.isEmpty()) {
                    ready.sort(Comparator.<F>comparingInt(f -> -f.gauge).thenComparingInt(f -> -f.luck)
                            .thenComparingInt(f -> f.no));
                    return ready.get(0);
                }
                time++;
                for (F f : living(-1)) {
                    f.gauge += f.speed;
                }
            }
        }

        static F first(List<F> of, ToIntFunction<F> by) {
            F best = null;
            for (F f : of) {
                if (best == null || by.applyAsInt(f) < by.applyAsInt(best)) {
                    best = f;
                }
            }
            return best;
        }

        /** Who made the turn, the time and the kind; null if the fight is over. */
        int[] turn() {
            if (over()) {
                return null;
            }
            F f = next();
            turns++;
            f.turns++;
            if (f.extra > 0) {
                f.extra--;
                f.extraTurns++;
            } else {
                f.gauge -= wheel;
            }
            f.guard = 0;
            int[] act = f.plan.get(f.place);
            List<F> foes = living(1 - f.side);
            if (act[0] == 0) {
                F foe = first(foes, x -> x.life);
                int loss = act[1] > foe.guard ? act[1] - foe.guard : 0;
                if (loss > foe.life) {
                    loss = foe.life;
                }
                foe.life -= loss;
                f.harm += loss;
                if (foe.life == 0) {
                    foe.gauge = foe.guard = foe.extra = 0;
                }
            } else if (act[0] == 1) {
                F foe = first(foes, x -> -x.gauge);
                foe.gauge = foe.gauge < act[1] ? 0 : foe.gauge - act[1];
            } else if (act[0] == 2) {
                List<F> friends = living(f.side);
                friends.remove(f);
                F friend = first(friends, x -> x.gauge);
                if (friend != null) {
                    friend.gauge = Math.min(9999, friend.gauge + act[1]);
                }
            } else if (act[0] == 3) {
                f.guard = act[1];
            } else if (act[0] == 4) {
                f.extra = Math.min(3, f.extra + act[1]);
            } else if (act[0] == 5) {
                f.speed = act[1];
            } else {
                f.life = Math.min(999, f.life + act[1]);
            }
            f.place = (f.place + 1) % f.plan.size();
            return new int[] {f.no, time, act[0]};
        }

        String likeness() {
            return all.stream().map(f -> f.life + " " + f.speed + " " + f.gauge + " " + f.guard + " " + f.extra + " "
                    + f.place).collect(Collectors.joining(","));
        }
    }

    static final class Wrong extends RuntimeException {
        final int code, position;

        Wrong(int code, int position) {
            this.code = code;
            this.position = position;
        }
    }

    /** Tokens as they stand: "w" a word, "n" a number, "s" a sign, "x" an invalid one, "e" the end. */
    static final class Reader {
        final List<String> types = new ArrayList<>(), texts = new ArrayList<>();
        final List<Integer> starts = new ArrayList<>();
        int at;

        Reader(String text) {
            Matcher m = Pattern.compile("[a-z]+|[0-9]+|[^ \n]", Pattern.DOTALL).matcher(text);
            while (m.find()) {
                String t = m.group();
                String type = "x";
                if (t.matches("[a-z]{1,8}")) {
                    type = "w";
                } else if (t.matches("[0-9]{1,3}")) {
                    type = "n";
                } else if (t.matches("[;()]")) {
                    type = "s";
                }
                types.add(type);
                texts.add(t);
                starts.add(m.start());
            }
            types.add("e");
            texts.add("");
            starts.add(text.length());
        }

        Wrong wrong(int code) {
            return new Wrong(code, starts.get(at));
        }

        boolean ended() {
            return types.get(at).equals("e");
        }

        boolean has(String text) {
            return texts.get(at).equals(text) && !types.get(at).equals("x") && !ended();
        }

        void take(String text) {
            if (!has(text)) {
                throw wrong(1);
            }
            at++;
        }

        int number(int least, int most) {
            if (!types.get(at).equals("n")) {
                throw wrong(1);
            }
            int n = Integer.parseInt(texts.get(at));
            if (n < least || n > most) {
                throw wrong(2);
            }
            at++;
            return n;
        }

        String word() {
            if (!types.get(at).equals("w")) {
                throw wrong(1);
            }
            return texts.get(at);
        }

        int act() {
            int kind = ACTS.indexOf(word());
            if (kind < 0) {
                throw wrong(1);
            }
            return kind;
        }
    }

    static final class Node {
        String what;
        int who, n, kind, amount;
        List<Node> inner;
    }

    S s = new S();
    S saved;
    Deque<S> undos = new ArrayDeque<>();
    List<Byte> buffer = new ArrayList<>();
    int code, position = NONE;
    String report;

    int feed(int a, int b, int c, int d, int e) {
        if (buffer.size() + 20 > 600) {
            throw new IllegalStateException();
        }
        for (int n : new int[] {a, b, c, d, e}) {
            for (byte x : java.nio.ByteBuffer.allocate(4).putInt(n).array()) {
                buffer.add(x);
            }
        }
        return buffer.size();
    }

    int truncate(int n) {
        if (n < 0 || n > buffer.size()) {
            throw new IllegalArgumentException();
        }
        buffer = new ArrayList<>(buffer.subList(0, n));
        return n;
    }

    private Reader taken() {
        StringBuilder all = new StringBuilder();
        for (byte b : buffer) {
            all.append((char) (b & 255));
        }
        buffer.clear();
        code = 0;
        position = NONE;
        return new Reader(all.toString());
    }

    private RuntimeException told(Wrong e) {
        code = e.code;
        position = e.position;
        return new IllegalArgumentException();
    }

    int readText() {
        Reader r = taken();
        try {
            s = text(r);
        } catch (Wrong e) {
            throw told(e);
        }
        undos.clear();
        return s.all.size();
    }

    private static S text(Reader r) {
        S s = new S();
        boolean wheel = false;
        while (!r.ended()) {
            if (r.has("wheel")) {
                if (wheel) {
                    throw r.wrong(3);
                }
                wheel = true;
                r.at++;
                s.wheel = r.number(100, 999);
            } else {
                if (r.has("fighter") && s.all.size() == 8) {
                    throw r.wrong(5);
                }
                r.take("fighter");
                s.all.add(fighterOf(r, s));
            }
            r.take(";");
        }
        return s;
    }

    private static F fighterOf(Reader r, S s) {
        F f = new F();
        f.no = s.all.size();
        f.name = r.word();
        for (F other : s.all) {
            if (other.name.equals(f.name)) {
                throw r.wrong(3);
            }
        }
        r.at++;
        if (!r.has("left") && !r.has("right")) {
            throw r.wrong(1);
        }
        f.side = r.has("left") ? 0 : 1;
        r.at++;
        r.take("speed");
        f.speed = r.number(1, 99);
        r.take("life");
        f.life = r.number(1, 999);
        if (r.has("luck")) {
            r.at++;
            f.luck = r.number(0, 9);
        }
        r.take("plan");
        do {
            int kind = r.act();
            if (f.plan.size() == 6) {
                throw r.wrong(5);
            }
            r.at++;
            f.plan.add(new int[] {kind, r.number(1, MOST[kind])});
        } while (!r.has(";"));
        return f;
    }

    int runScript() {
        Reader r = taken();
        List<Node> nodes;
        try {
            nodes = script(r, 0, new int[1]);
            if (!r.ended()) {
                throw r.wrong(1);
            }
        } catch (Wrong e) {
            throw told(e);
        }
        return change(() -> {
            int[] done = new int[1];
            Deque<S> before = undos;
            undos = new ArrayDeque<>();
            run(nodes, done);
            undos = before;
            return done[0];
        });
    }

    private List<Node> script(Reader r, int depth, int[] told) {
        List<Node> nodes = new ArrayList<>();
        List<String> known = List.of("turn", "push", "lift", "extra", "speed", "heal", "wheel", "act", "repeat");
        while (!r.ended() && !(depth > 0 && r.has(")"))) {
            Node n = new Node();
            n.what = r.word();
            if (!known.contains(n.what)) {
                throw r.wrong(1);
            }
            if (n.what.equals("repeat") && depth == 2) {
                throw r.wrong(3);
            }
            if (++told[0] > 30) {
                throw r.wrong(5);
            }
            r.at++;
            if (n.what.equals("repeat")) {
                n.n = r.number(1, 20);
                r.take("(");
                n.inner = script(r, depth + 1, told);
                r.take(")");
            } else {
                arguments(r, n);
            }
            r.take(";");
            nodes.add(n);
        }
        return nodes;
    }

    private void arguments(Reader r, Node n) {
        if (!n.what.equals("turn") && !n.what.equals("wheel")) {
            String name = r.word();
            n.who = NONE;
            for (F f : s.all) {
                if (f.name.equals(name)) {
                    n.who = f.no;
                }
            }
            if (n.who == NONE) {
                throw r.wrong(4);
            }
            r.at++;
        }
        if (!n.what.equals("extra")) {
            n.n = r.number(0, 999);
        }
        if (n.what.equals("act")) {
            n.kind = r.act();
            r.at++;
            n.amount = r.number(0, 999);
        }
    }

    private boolean run(List<Node> nodes, int[] done) {
        for (Node n : nodes) {
            if (n.inner != null) {
                for (int k = 0; k < n.n; k++) {
                    if (!run(n.inner, done)) {
                        return false;
                    }
                }
            } else {
                if (done[0] == 40) {
                    return false;
                }
                try {
                    if (!command(n)) {
                        return false;
                    }
                } catch (RuntimeException e) {
                    return false;
                }
                done[0]++;
            }
        }
        return true;
    }

    private boolean command(Node n) {
        switch (n.what) {
            case "turn": play(n.n); return true;
            case "push": push(n.who, n.n); return true;
            case "lift": lift(n.who, n.n); return true;
            case "extra": return extra(n.who);
            case "speed": setSpeed(n.who, n.n); return true;
            case "heal": heal(n.who, n.n); return true;
            case "wheel": setWheel(n.n); return true;
            default: setAct(n.who, n.n, n.kind, n.amount); return true;
        }
    }

    private F known(int fighter) {
        if (fighter < 0 || fighter >= s.all.size()) {
            throw new IndexOutOfBoundsException();
        }
        return s.all.get(fighter);
    }

    private static void demand(boolean right) {
        if (!right) {
            throw new IllegalArgumentException();
        }
    }

    private static void possible(boolean right) {
        if (!right) {
            throw new IllegalStateException();
        }
    }

    int setting(int what) {
        demand(what >= 0 && what <= 9);
        return new int[] {s.all.size(), s.wheel, s.time, s.turns, s.living(-1).size(), s.life(0), s.life(1), s.won(),
            s.over() ? 1 : 0, undos.size()}[what];
    }

    int fighter(int fighter, int what) {
        F f = known(fighter);
        demand(what >= 0 && what <= 11);
        return new int[] {f.side, f.speed, f.life, f.luck, f.gauge, f.guard, f.extra, f.place, f.plan.size(), f.turns,
            f.extraTurns, f.harm}[what];
    }

    int actKind(int fighter, int i) {
        F f = known(fighter);
        return i >= 0 && i < f.plan.size() ? f.plan.get(i)[0] : NONE;
    }

    int actNumber(int fighter, int i) {
        F f = known(fighter);
        return i >= 0 && i < f.plan.size() ? f.plan.get(i)[1] : NONE;
    }

    int letter(int fighter, int i) {
        F f = known(fighter);
        return i >= 0 && i < f.name.length() ? f.name.charAt(i) : 0;
    }

    int ticksTo(int fighter) {
        F f = known(fighter);
        if (!f.lives()) {
            return NONE;
        }
        int ticks = 0;
        for (int gauge = f.gauge; gauge < s.wheel; gauge += f.speed) {
            ticks++;
        }
        return ticks;
    }

    int row(int i) {
        List<F> row = s.living(-1);
        row.sort(Comparator.<F>comparingInt(f -> ticksTo(f.no)).thenComparingInt(f -> -f.luck)
                .thenComparingInt(f -> f.no));
        return i >= 0 && i < row.size() ? row.get(i).no : NONE;
    }

    double meanSpeed() {
        int sum = s.living(-1).stream().mapToInt(f -> f.speed).sum();
        return s.living(-1).isEmpty() ? 0.0 : (double) sum / s.living(-1).size();
    }

    float share() {
        return s.living(-1).isEmpty() ? 0.0f : (float) s.life(0) / (float) (s.life(0) + s.life(1));
    }

    private int[] coming(int i) {
        demand(i >= 0 && i <= 99);
        S t = s.copy();
        for (int k = 0; k < i; k++) {
            t.turn();
        }
        int[] turn = t.turn();
        return turn == null ? new int[] {NONE, NONE, NONE} : turn;
    }

    int turn(int i) {
        return coming(i)[0];
    }

    int turnTime(int i) {
        return coming(i)[1];
    }

    int turnKind(int i) {
        return coming(i)[2];
    }

    private S after(int turns) {
        return after(turns, t -> { });
    }

    private S after(int turns, Consumer<S> first) {
        S t = s.copy();
        first.accept(t);
        for (int k = 0; k < turns; k++) {
            t.turn();
        }
        return t;
    }

    private void demandTurns(int turns) {
        demand(turns >= 0 && turns <= 200);
    }

    int lifeIn(int fighter, int turns) {
        known(fighter);
        demandTurns(turns);
        return after(turns).all.get(fighter).life;
    }

    int gaugeIn(int fighter, int turns) {
        known(fighter);
        demandTurns(turns);
        return after(turns).all.get(fighter).gauge;
    }

    private List<Integer> actors(int turns) {
        S t = s.copy();
        List<Integer> who = new ArrayList<>();
        for (int k = 0; k < turns && !t.over(); k++) {
            who.add(t.turn()[0]);
        }
        return who;
    }

    int turnsOf(int fighter, int turns) {
        known(fighter);
        demandTurns(turns);
        return (int) actors(turns).stream().filter(n -> n == fighter).count();
    }

    int longestRun(int turns) {
        demandTurns(turns);
        List<Integer> who = actors(turns);
        int most = 0;
        for (int from = 0; from < who.size(); from++) {
            int to = from;
            while (to < who.size() && who.get(to).equals(who.get(from))) {
                to++;
            }
            most = Math.max(most, to - from);
        }
        return most;
    }

    int endsIn() {
        for (int n = 0; n <= 200; n++) {
            if (after(n).over()) {
                return n;
            }
        }
        return NONE;
    }

    int winner() {
        return after(200).won();
    }

    int firstLoss(int fighter) {
        known(fighter);
        S t = s.copy();
        for (int n = 1; n <= 200; n++) {
            int before = t.all.get(fighter).life;
            t.turn();
            if (t.all.get(fighter).life < before) {
                return n;
            }
        }
        return NONE;
    }

    private int[] repeat() {
        S t = s.copy();
        List<String> seen = new ArrayList<>(List.of(t.likeness()));
        for (int n = 1; n <= 200; n++) {
            if (t.turn() == null) {
                break;
            }
            int same = seen.lastIndexOf(t.likeness());
            if (same >= 0) {
                return new int[] {n, n - same};
            }
            seen.add(t.likeness());
        }
        return new int[] {NONE, NONE};
    }

    int repeatIn() {
        return repeat()[0];
    }

    int cycle() {
        return repeat()[1];
    }

    int leastSpeed(int fighter) {
        F f = known(fighter);
        for (int speed = 1; speed <= 99; speed++) {
            int set = speed;
            if (after(200, t -> t.all.get(fighter).speed = set).won() == f.side) {
                return speed;
            }
        }
        return NONE;
    }

    int bestPush(int side, int by) {
        demand((side == 0 || side == 1) && by >= 1 && by <= 999);
        int best = NONE, most = NONE;
        for (F foe : s.living(1 - side)) {
            int life = after(20, t -> {
                F f = t.all.get(foe.no);
                f.gauge = Math.max(0, f.gauge - by);
            }).life(side);
            if (life > most) {
                most = life;
                best = foe.no;
            }
        }
        return best;
    }

    int bestSwap(int fighter) {
        F f = known(fighter);
        if (!f.lives()) {
            return NONE;
        }
        int best = NONE, most = after(20).life(f.side);
        for (F friend : s.living(f.side)) {
            int life = after(20, t -> {
                t.all.get(fighter).gauge = friend.gauge;
                t.all.get(friend.no).gauge = f.gauge;
            }).life(f.side);
            if (friend != f && life > most) {
                most = life;
                best = friend.no;
            }
        }
        return best;
    }

    int bestPlace(int fighter) {
        F f = known(fighter);
        int best = NONE, most = NONE;
        for (int i = 0; i < f.plan.size(); i++) {
            int place = i;
            int life = after(20, t -> t.all.get(fighter).place = place).life(f.side);
            if (life > most) {
                most = life;
                best = i;
            }
        }
        return best;
    }

    private int change(java.util.function.IntSupplier doing) {
        S before = s.copy();
        int answer = doing.getAsInt();
        undos.push(before);
        if (undos.size() > 6) {
            undos.removeLast();
        }
        return answer;
    }

    int play(int turns) {
        demand(turns >= 1 && turns <= 99);
        possible(!s.over() && s.turns + turns <= 9999);
        return change(() -> {
            int before = s.turns;
            for (int k = 0; k < turns; k++) {
                s.turn();
            }
            return s.turns - before;
        });
    }

    int push(int fighter, int by) {
        F f = known(fighter);
        demand(by >= 1 && by <= 999);
        possible(f.lives());
        return change(() -> f.gauge = Math.max(0, f.gauge - by));
    }

    int lift(int fighter, int by) {
        F f = known(fighter);
        demand(by >= 1 && by <= 999);
        possible(f.lives());
        return change(() -> f.gauge = Math.min(9999, f.gauge + by));
    }

    boolean extra(int fighter) {
        F f = known(fighter);
        possible(f.lives());
        return f.extra < 3 && change(() -> ++f.extra) > 0;
    }

    int setSpeed(int fighter, int speed) {
        F f = known(fighter);
        demand(speed >= 1 && speed <= 99);
        int before = f.speed;
        change(() -> f.speed = speed);
        return before;
    }

    int heal(int fighter, int by) {
        F f = known(fighter);
        demand(by >= 1 && by <= 999);
        return change(() -> f.life = Math.min(999, f.life + by));
    }

    int setWheel(int wheel) {
        demand(wheel >= 100 && wheel <= 999);
        int before = s.wheel;
        change(() -> s.wheel = wheel);
        return before;
    }

    int setAct(int fighter, int i, int kind, int number) {
        F f = known(fighter);
        demand(i >= 0 && i < f.plan.size() && kind >= 0 && kind <= 6 && number >= 1 && number <= MOST[kind]);
        int before = f.plan.get(i)[0];
        change(() -> {
            f.plan.set(i, new int[] {kind, number});
            return 0;
        });
        return before;
    }

    int report() {
        int next = coming(0)[0];
        StringBuilder all = new StringBuilder();
        for (F f : s.all) {
            all.append(f.name).append(' ').append(f.life).append('/').append(f.gauge).append("+".repeat(f.extra))
                    .append(f.no == next ? "*" : "").append('\n');
        }
        report = all.toString();
        return report.length();
    }

    int reportByte(int i) {
        if (report == null || i < 0 || i >= report.length()) {
            throw new IndexOutOfBoundsException();
        }
        return report.charAt(i);
    }

    int undo() {
        if (undos.isEmpty()) {
            return NONE;
        }
        s = undos.pop();
        return undos.size();
    }

    int save() {
        saved = s.copy();
        return s.time;
    }

    int restore() {
        possible(saved != null);
        s = saved.copy();
        undos.clear();
        return s.time;
    }
}
