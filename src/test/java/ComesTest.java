import java.util.function.IntUnaryOperator;

/** Promises 17 to 32: what comes. */
public final class ComesTest {
    private static final Check CHECK = new Check();
    /** Time 2: a hits; 4: a hits, b hits; 6: a hits, and b does not live any more. */
    private static final String DUEL = "wheel 100;fighter a left speed 50 life 20 plan hit 5;"
            + "fighter b right speed 25 life 12 plan hit 4;";
    /** Behind turn 6 all is as behind turn 2. */
    private static final String ROUND = "wheel 100;fighter a left speed 50 life 9 plan guard 5;"
            + "fighter b right speed 50 life 9 plan guard 5 guard 7;";
    private static final int[] WILD = {-1, 201, Integer.MIN_VALUE, Integer.MAX_VALUE};

    public static void main(String[] args) {
        turns();
        whoIsNext();
        actsDone();
        laterSelves();
        runs();
        ends();
        losses();
        repeats();
        speeds();
        pushes();
        swaps();
        places();
        nothingChanges();
        boundOfTurns();
        CHECK.finish();
    }

    private static void rowOf(String what, IntUnaryOperator call, int... due) {
        for (int i = 0; i < due.length; i++) {
            CHECK.same(what + " " + i, call.applyAsInt(i), due[i]);
        }
    }

    private static void turns() {
        TurnWheel x = Check.of(DUEL);
        rowOf("turn", x::turn, 0, 0, 1, 0, -1, -1);
        rowOf("turnTime", x::turnTime, 2, 4, 4, 6, -1, -1);
        rowOf("turnKind", x::turnKind, 0, 0, 0, 0, -1, -1);
        CHECK.same("turn 99 behind the end", x.turn(99), -1);
        for (int i : new int[] {-1, 100, Integer.MIN_VALUE, Integer.MAX_VALUE}) {
            CHECK.argument("turn " + i, () -> x.turn(i));
            CHECK.argument("turnTime " + i, () -> x.turnTime(i));
            CHECK.argument("turnKind " + i, () -> x.turnKind(i));
        }
        TurnWheel y = Check.of(ROUND);
        CHECK.same("turn 99", y.turn(99), 1);
        CHECK.same("turnTime 99", y.turnTime(99), 100);
        CHECK.same("turnKind 99", y.turnKind(99), 3);
        y.play(3);
        CHECK.same("turnTime counts from the beginning", y.turnTime(0), 4);
        TurnWheel over = new TurnWheel();
        CHECK.same("turn of nobody", over.turn(0), -1);
        CHECK.same("turnTime of nobody", over.turnTime(0), -1);
        CHECK.same("turnKind of nobody", over.turnKind(0), -1);
        CHECK.argument("turn 100 of nobody", () -> over.turn(100));
    }

    private static void whoIsNext() {
        TurnWheel x = Check.of("wheel 100;fighter a left speed 10 life 9 luck 1 plan rest 1;"
                + "fighter b right speed 10 life 9 luck 2 plan rest 1;fighter c left speed 10 life 9 luck 2 plan rest 1;");
        rowOf("the greatest luck, then the lowest number", x::turn, 1, 2, 0, 1, 2, 0);
        x.lift(0, 1);
        rowOf("the greatest gauge", x::turn, 0, 1, 2, 0);
        x.lift(2, 300);
        CHECK.same("no ticks go by if one is ready", x.turnTime(0), 0);
        rowOf("one who is ready thrice", x::turn, 2, 2, 2, 0, 1, 2);
        x.extra(1);
        x.extra(0);
        rowOf("extra turns first, the lowest number", x::turn, 0, 1, 2, 2, 2);
        CHECK.same("an extra turn leaves the gauge", x.gaugeIn(0, 1), 1);
        x.extra(1);
        rowOf("two extra turns", x::turn, 0, 1, 1, 2);
        TurnWheel y = Check.of("wheel 100;fighter a left speed 33 life 9 plan rest 1;fighter b right speed 1 life 9 plan hit 1;");
        CHECK.same("4 ticks of 33", y.turnTime(0), 4);
        CHECK.same("32 are left", y.gaugeIn(0, 1), 32);
        CHECK.same("those who wait gain too", y.gaugeIn(1, 1), 4);
    }

    private static void actsDone() {
        TurnWheel hit = Check.of("wheel 100;fighter a left speed 50 life 9 plan hit 5;"
                + "fighter b right speed 1 life 7 plan hit 1;fighter c right speed 1 life 4 plan hit 1;"
                + "fighter d right speed 1 life 4 plan hit 1;");
        rowOf("hit: the least life, the lowest number: c", n -> hit.lifeIn(2, n), 4, 0, 0, 0);
        rowOf("hit: d behind it", n -> hit.lifeIn(3, n), 4, 4, 0, 0);
        rowOf("hit: b at last", n -> hit.lifeIn(1, n), 7, 7, 7, 2, 0);
        hit.lift(2, 40);
        hit.extra(2);
        hit.push(2, 1);
        CHECK.same("one who falls loses its gauge", hit.gaugeIn(2, 2), 0);
        CHECK.same("nobody of the others does", hit.gaugeIn(3, 2), 2);
        hit.play(2);
        CHECK.same("one who falls loses its extra turns", hit.fighter(2, 6), 0);
        CHECK.same("the life that was lost, no more than there was", hit.fighter(0, 11), 4);
        fallen();
        TurnWheel guard = Check.of("wheel 100;fighter a left speed 50 life 9 plan hit 5 hit 9;"
                + "fighter b right speed 99 life 90 plan guard 6;");
        rowOf("guard: nothing, then what is above it", n -> guard.lifeIn(1, n), 90, 90, 90, 90, 90, 87);
        TurnWheel push = Check.of("wheel 100;fighter a left speed 60 life 9 plan push 70;"
                + "fighter b right speed 30 life 7 plan hit 1;fighter c right speed 45 life 4 plan hit 1;"
                + "fighter d right speed 45 life 4 plan hit 1;");
        CHECK.same("push: the greatest gauge, the lowest number", push.gaugeIn(2, 1), 20);
        CHECK.same("push: not the next one", push.gaugeIn(3, 1), 90);
        TurnWheel back = Check.of("wheel 100;fighter b right speed 60 life 9 plan push 70;"
                + "fighter a left speed 30 life 1 plan hit 1;fighter c left speed 45 life 1 plan hit 1;");
        CHECK.same("push by the other side", back.gaugeIn(2, 1), 20);
        push.setAct(0, 0, 1, 999);
        CHECK.same("push: not below 0", push.gaugeIn(2, 1), 0);
        TurnWheel lift = Check.of("wheel 100;fighter a left speed 60 life 9 plan lift 70;"
                + "fighter b left speed 30 life 7 plan hit 1;fighter c left speed 10 life 4 plan hit 1;"
                + "fighter d left speed 10 life 4 plan hit 1;fighter e right speed 1 life 4 plan hit 1;");
        CHECK.same("lift: the least gauge, the lowest number", lift.gaugeIn(2, 1), 90);
        CHECK.same("lift: not the next one", lift.gaugeIn(3, 1), 20);
        CHECK.same("lift: not itself", lift.gaugeIn(0, 1), 20);
        TurnWheel full = Check.of("wheel 999;fighter a left speed 60 life 9 plan lift 999;"
                + "fighter b left speed 1 life 7 plan rest 1;fighter e right speed 1 life 4 plan hit 1;");
        Check.script(full, "repeat 10(lift b 999;);repeat 3(extra a;);");
        rowOf("lift: at most 9999", n -> full.gaugeIn(1, n), 9990, 9999, 9999);
        TurnWheel weak = Check.of("wheel 100;fighter a left speed 60 life 9 plan lift 70;"
                + "fighter b left speed 30 life 1 plan hit 1;fighter e right speed 1 life 4 plan hit 1;");
        CHECK.same("lift: one with a life of 1", weak.gaugeIn(1, 1), 130);
        TurnWheel alone = Check.of("wheel 100;fighter a left speed 60 life 9 plan lift 9;"
                + "fighter b right speed 1 life 7 plan rest 1;");
        CHECK.same("lift: nothing without another", alone.gaugeIn(0, 1), 20);
        TurnWheel again = Check.of("wheel 100;fighter a left speed 50 life 9 plan again 3 again 2 rest 1 rest 1 rest 1;"
                + "fighter b right speed 50 life 7 luck 1 plan rest 1;");
        again.play(3);
        CHECK.same("again: at most 3", again.fighter(0, 6), 3);
        rowOf("again: its turns come at once", again::turn, 0, 0, 0, 1, 0);
        rowOf("again: at the same time", again::turnTime, 2, 2, 2, 4, 4);
        TurnWheel rest = Check.of("wheel 100;fighter a left speed 50 life 950 plan rest 40 speed 99;"
                + "fighter b right speed 1 life 7 plan rest 1;");
        rowOf("rest: at most 999", n -> rest.lifeIn(0, n), 950, 990, 990, 999);
        rowOf("speed: from then on", rest::turnTime, 2, 4, 6, 7, 8);
        CHECK.same("a guard lasts until its turn", guardLost(), 2);
    }

    private static void fallen() {
        TurnWheel x = Check.of("wheel 100;fighter a left speed 10 life 9 plan hit 99;"
                + "fighter b right speed 40 life 1 plan guard 6;fighter c right speed 20 life 1 plan guard 7;"
                + "fighter d left speed 30 life 1 plan lift 50;");
        x.lift(1, 100);
        x.play(1);
        x.extra(1);
        x.extra(0);
        x.lift(1, 30);
        CHECK.same("b has a guard", x.fighter(1, 5), 6);
        x.play(1);
        int[] due = {1, 40, 0, 0, 0, 0, 0, 0};
        for (int i = 0; i < due.length; i++) {
            CHECK.same("one who falls: " + i, x.fighter(1, i), due[i]);
        }
        CHECK.same("a fight of those with a life of 1", x.turn(0), 3);
        CHECK.same("it is made", x.play(1), 1);
        CHECK.same("one who fell gains no gauge", x.fighter(1, 4), 0);
        CHECK.same("one with a life of 1 gains", x.fighter(2, 4), 80);
        CHECK.same("lift of the other who lives", x.fighter(0, 4), 90);
        CHECK.same("those who live", x.setting(4), 3);
        CHECK.same("their mean speed", x.meanSpeed(), 20.0);
        CHECK.same("the row of them", x.row(0) * 100 + x.row(1) * 10 + x.row(2), 23);
        CHECK.yes("an extra turn for one with a life of 1", x.extra(3));
        CHECK.same("it makes it", x.turn(0), 3);
        CHECK.same("bestPush of one with a life of 1", x.bestPush(0, 1), 2);
        Check.script(x, "extra c;turn 2;");
        CHECK.same("the other side's guard", x.fighter(2, 5), 7);
    }

    private static int guardLost() {
        TurnWheel x = Check.of("wheel 100;fighter a left speed 50 life 9 plan guard 9 rest 1;"
                + "fighter b right speed 50 life 9 plan rest 1 hit 8;");
        return x.lifeIn(0, 4);
    }

    private static void laterSelves() {
        TurnWheel x = Check.of(DUEL);
        rowOf("lifeIn of b", n -> x.lifeIn(1, n), 12, 7, 2, 2, 0, 0);
        rowOf("lifeIn of a", n -> x.lifeIn(0, n), 20, 20, 20, 16, 16, 16);
        rowOf("gaugeIn of a", n -> x.gaugeIn(0, n), 0, 0, 0, 0, 0, 0);
        rowOf("gaugeIn of b", n -> x.gaugeIn(1, n), 0, 50, 100, 0, 0, 0);
        rowOf("turnsOf a", n -> x.turnsOf(0, n), 0, 1, 2, 2, 3, 3);
        rowOf("turnsOf b", n -> x.turnsOf(1, n), 0, 0, 0, 1, 1, 1);
        CHECK.same("lifeIn 200", x.lifeIn(0, 200), 16);
        CHECK.same("gaugeIn 200", x.gaugeIn(1, 200), 0);
        CHECK.same("turnsOf in 200", x.turnsOf(0, 200), 3);
        for (int n : WILD) {
            CHECK.argument("lifeIn " + n, () -> x.lifeIn(0, n));
            CHECK.argument("gaugeIn " + n, () -> x.gaugeIn(0, n));
            CHECK.argument("turnsOf " + n, () -> x.turnsOf(0, n));
            CHECK.index("lifeIn of nobody comes first", () -> x.lifeIn(2, n));
            CHECK.index("gaugeIn of nobody comes first", () -> x.gaugeIn(-1, n));
            CHECK.index("turnsOf nobody comes first", () -> x.turnsOf(2, n));
        }
        x.play(1);
        rowOf("turnsOf a, from now on", n -> x.turnsOf(0, n), 0, 1, 1, 2);
        TurnWheel y = Check.of(ROUND);
        CHECK.same("turnsOf in 200 of a round", y.turnsOf(1, 200), 100);
        CHECK.same("turnsOf in 199 of a round", y.turnsOf(1, 199), 99);
    }

    private static void runs() {
        TurnWheel x = Check.of(DUEL);
        rowOf("longestRun", x::longestRun, 0, 1, 2, 2, 2, 2);
        CHECK.same("longestRun in 200", x.longestRun(200), 2);
        for (int n : WILD) {
            CHECK.argument("longestRun in " + n, () -> x.longestRun(n));
            CHECK.argument("longestRun in " + n + " of nobody", () -> new TurnWheel().longestRun(n));
        }
        x.play(2);
        CHECK.same("longestRun: turns that were made don't count", x.longestRun(9), 1);
        CHECK.same("longestRun of nobody", new TurnWheel().longestRun(200), 0);
        TurnWheel y = Check.of(ROUND);
        CHECK.same("longestRun one by one", y.longestRun(200), 1);
        y.lift(1, 300);
        CHECK.same("longestRun by a full gauge", y.longestRun(200), 3);
    }

    /** A fight of 2 * life turns: the first fighter only rests, the second takes 1 of its life a turn. */
    private static String longFight(int life) {
        return "wheel 100;fighter b right speed 50 life " + life + " plan lift 1;"
                + "fighter a left speed 50 life 9 plan hit 1;";
    }

    private static void ends() {
        TurnWheel x = Check.of(DUEL);
        CHECK.same("endsIn", x.endsIn(), 4);
        CHECK.same("winner", x.winner(), 0);
        x.play(3);
        CHECK.same("endsIn of one", x.endsIn(), 1);
        x.play(1);
        CHECK.same("endsIn of one that is over", x.endsIn(), 0);
        CHECK.same("winner of one that is over", x.winner(), 0);
        x.heal(1, 100);
        CHECK.same("winner of one that goes on", x.winner(), 1);
        TurnWheel last = Check.of(longFight(100));
        CHECK.same("endsIn 200", last.endsIn(), 200);
        CHECK.same("winner in 200", last.winner(), 0);
        TurnWheel beyond = Check.of(longFight(101));
        CHECK.same("endsIn more than 200", beyond.endsIn(), -1);
        CHECK.same("winner in more than 200", beyond.winner(), -1);
        beyond.play(1);
        CHECK.same("endsIn 201", beyond.endsIn(), -1);
        CHECK.same("winner in 201", beyond.winner(), -1);
        beyond.play(1);
        CHECK.same("endsIn 200 then", beyond.endsIn(), 200);
        CHECK.same("endsIn of nobody", new TurnWheel().endsIn(), 0);
        CHECK.same("winner of nobody", new TurnWheel().winner(), -1);
        CHECK.same("winner of one side alone", Check.of("fighter a right speed 1 life 1 plan hit 1;").winner(), 1);
    }

    private static void losses() {
        TurnWheel x = Check.of(DUEL);
        CHECK.same("firstLoss of b", x.firstLoss(1), 1);
        CHECK.same("firstLoss of a", x.firstLoss(0), 3);
        CHECK.index("firstLoss 2 of 2", () -> x.firstLoss(2));
        CHECK.index("firstLoss -1", () -> x.firstLoss(-1));
        x.play(3);
        CHECK.same("firstLoss without one", x.firstLoss(0), -1);
        CHECK.same("firstLoss of the last turn", x.firstLoss(1), 1);
        x.play(1);
        CHECK.same("firstLoss of one who does not live", x.firstLoss(1), -1);
        TurnWheel late = Check.of("wheel 999;fighter b right speed 99 life 9 luck 1 plan speed 99;"
                + "fighter c right speed 99 life 9 luck 1 plan speed 99;fighter a left speed 1 life 9 plan hit 5;");
        CHECK.same("firstLoss 199", late.firstLoss(0), 199);
        late.extra(0);
        CHECK.same("firstLoss 200", late.firstLoss(0), 200);
        late.extra(0);
        CHECK.same("firstLoss 201", late.firstLoss(0), -1);
        TurnWheel kept = Check.of("wheel 100;fighter a left speed 50 life 9 plan hit 5 hit 9;"
                + "fighter b right speed 99 life 90 plan guard 6;");
        CHECK.same("firstLoss: a hit that is held off does not count", kept.firstLoss(1), 5);
    }

    private static void repeats() {
        TurnWheel x = Check.of(ROUND);
        CHECK.same("repeatIn", x.repeatIn(), 6);
        CHECK.same("cycle", x.cycle(), 4);
        x.play(2);
        CHECK.same("repeatIn of what is now", x.repeatIn(), 4);
        CHECK.same("cycle of what is now", x.cycle(), 4);
        x.lift(0, 1);
        CHECK.same("repeatIn of a gauge that stays 1 more", x.repeatIn(), 4);
        TurnWheel over = Check.of(DUEL);
        CHECK.same("repeatIn of a fight that ends", over.repeatIn(), -1);
        CHECK.same("cycle of a fight that ends", over.cycle(), -1);
        over.play(4);
        CHECK.same("repeatIn of one that is over", over.repeatIn(), -1);
        CHECK.same("cycle of one that is over", over.cycle(), -1);
        CHECK.same("repeatIn of nobody", new TurnWheel().repeatIn(), -1);
        CHECK.same("repeatIn of one side alone", Check.of("fighter a left speed 1 life 1 plan rest 1;").repeatIn(), -1);
        CHECK.same("all must be the same: life", Check.of("wheel 100;fighter a left speed 50 life 9 plan rest 1;"
                + "fighter b right speed 50 life 9 plan guard 5;").repeatIn(), -1);
        CHECK.same("until the life is full", Check.of("wheel 100;fighter a left speed 50 life 949 plan rest 1;"
                + "fighter b right speed 50 life 9 plan guard 5;").repeatIn(), 101);
        turnsApart();
        onlyTheSpeed();
    }

    private static void onlyTheSpeed() {
        TurnWheel x = Check.of("wheel 100;fighter a left speed 10 life 9 plan lift 1;"
                + "fighter b right speed 10 life 9 plan speed 50;");
        CHECK.same("all must be the same: speed", x.repeatIn(), 8);
        CHECK.same("cycle alone", Check.of("wheel 100;fighter a left speed 10 life 9 plan lift 1;"
                + "fighter b right speed 10 life 9 plan speed 50;").cycle(), 6);
        x.setAct(1, 0, 6, 1);
        CHECK.same("cycle is of now", x.cycle(), -1);
        TurnWheel self = Check.of("wheel 100;fighter a left speed 10 life 9 plan again 1;"
                + "fighter b right speed 1 life 9 plan lift 1;");
        CHECK.same("one turn that leaves all as it is", self.repeatIn(), 2);
        CHECK.same("a cycle of one turn", self.cycle(), 1);
        self.play(1);
        CHECK.same("one turn that leaves all as it is now", self.repeatIn(), 1);
    }

    private static void turnsApart() {
        TurnWheel x = Check.of("wheel 100;fighter a left speed 50 life 9 plan guard 1;"
                + "fighter b right speed 50 life 9 plan guard 1 guard 2 guard 3 guard 4 guard 5 guard 6;");
        CHECK.same("repeatIn of six acts", x.repeatIn(), 14);
        CHECK.same("cycle of six acts", x.cycle(), 12);
        // all comes again when 999 ticks are gone: 99 turns of a and 98 of b
        TurnWheel y = Check.of("wheel 999;fighter a left speed 99 life 9 plan guard 1;"
                + "fighter b right speed 98 life 9 plan guard 1;");
        CHECK.same("repeatIn 199", y.repeatIn(), 199);
        CHECK.same("cycle of 199", y.cycle(), 197);
        y.extra(0);
        CHECK.same("repeatIn 200", y.repeatIn(), 200);
        CHECK.same("cycle of 200", y.cycle(), 197);
        y.extra(0);
        CHECK.same("repeatIn 201", y.repeatIn(), -1);
        CHECK.same("cycle of 201", y.cycle(), -1);
    }

    private static void speeds() {
        TurnWheel x = Check.of(DUEL);
        CHECK.same("leastSpeed of b: 5 hits before time 6 is gone", x.leastSpeed(1), 84);
        CHECK.same("leastSpeed of a: 3 turns at time 20", x.leastSpeed(0), 15);
        CHECK.index("leastSpeed 2 of 2", () -> x.leastSpeed(2));
        CHECK.index("leastSpeed -1", () -> x.leastSpeed(-1));
        CHECK.same("the speed is as before", x.fighter(1, 1), 25);
        x.play(4);
        CHECK.same("leastSpeed of one who has won", x.leastSpeed(0), 1);
        CHECK.same("leastSpeed of one who has lost", x.leastSpeed(1), -1);
        CHECK.same("leastSpeed without an end", Check.of(ROUND).leastSpeed(0), -1);
        TurnWheel team = Check.of(DUEL + "fighter c right speed 1 life 1 plan hit 1;");
        team.play(2);
        CHECK.same("c does not live", team.fighter(2, 2), 0);
        team.setSpeed(1, 99);
        team.heal(1, 100);
        CHECK.same("leastSpeed of one who does not live, its side wins", team.leastSpeed(2), 1);
        TurnWheel race = Check.of("wheel 198;fighter b right speed 1 life 9 plan hit 9;"
                + "fighter a left speed 99 life 9 plan hit 9;");
        CHECK.same("leastSpeed 99", race.leastSpeed(0), 99);
        race.push(0, 1);
        race.lift(1, 1);
        CHECK.same("leastSpeed of more than 99", race.leastSpeed(0), -1);
        CHECK.same("within 200 turns", Check.of(longFight(100)).leastSpeed(1), 50);
        CHECK.same("never so within 200", Check.of(longFight(999)).leastSpeed(1), -1);
    }

    private static void pushes() {
        TurnWheel x = Check.of("wheel 100;fighter a left speed 1 life 900 plan guard 1;"
                + "fighter b right speed 10 life 900 plan hit 5;fighter c right speed 10 life 900 plan hit 50;");
        x.lift(1, 100);
        x.lift(2, 100);
        CHECK.same("bestPush takes a turn of c", x.bestPush(0, 100), 2);
        CHECK.same("bestPush that takes no turn: the lowest number", x.bestPush(0, 1), 1);
        CHECK.same("bestPush of the only other", x.bestPush(1, 50), 0);
        CHECK.same("the gauges are as before", x.fighter(2, 4), 100);
        for (int by : new int[] {0, -1, 1000, Integer.MIN_VALUE, Integer.MAX_VALUE}) {
            CHECK.argument("bestPush by " + by, () -> x.bestPush(0, by));
        }
        for (int side : new int[] {-1, 2, Integer.MIN_VALUE, Integer.MAX_VALUE}) {
            CHECK.argument("bestPush of side " + side, () -> x.bestPush(side, 1));
        }
        CHECK.same("bestPush by 999", x.bestPush(0, 999), 2);
        TurnWheel over = Check.of(DUEL);
        over.play(4);
        CHECK.same("bestPush without one who lives", over.bestPush(0, 1), -1);
        CHECK.same("bestPush of a side that has lost", over.bestPush(1, 1), 0);
        CHECK.same("bestPush of nobody", new TurnWheel().bestPush(0, 999), -1);
        CHECK.argument("bestPush by 0 of nobody", () -> new TurnWheel().bestPush(0, 0));
    }

    private static void swaps() {
        TurnWheel x = Check.of("wheel 100;fighter a left speed 10 life 100 plan guard 1;"
                + "fighter b left speed 10 life 100 plan hit 50;fighter c right speed 10 life 40 plan hit 9;");
        CHECK.same("bestSwap that makes it no better", x.bestSwap(0), -1);
        x.lift(0, 90);
        x.lift(2, 50);
        CHECK.same("bestSwap: b hits before c", x.bestSwap(1), 0);
        CHECK.same("bestSwap: the other way round", x.bestSwap(0), 1);
        CHECK.same("bestSwap without another", x.bestSwap(2), -1);
        CHECK.same("the gauges are as before", x.fighter(0, 4), 90);
        CHECK.index("bestSwap 3 of 3", () -> x.bestSwap(3));
        CHECK.index("bestSwap -1", () -> x.bestSwap(-1));
        TurnWheel y = Check.of("wheel 100;fighter a left speed 10 life 100 plan guard 1;"
                + "fighter d left speed 10 life 100 plan guard 1;fighter b left speed 10 life 100 plan hit 50;"
                + "fighter c right speed 10 life 40 plan hit 9;");
        y.lift(0, 90);
        y.lift(1, 90);
        y.lift(3, 50);
        CHECK.same("bestSwap: the lowest number of several", y.bestSwap(2), 0);
        swapsOfSome();
        TurnWheel dead = Check.of("wheel 100;fighter a left speed 50 life 5 plan hit 1;"
                + "fighter b left speed 5 life 100 plan hit 50;fighter c right speed 99 life 40 plan hit 5;");
        dead.play(1);
        CHECK.same("a does not live", dead.fighter(0, 2), 0);
        CHECK.same("bestSwap of one who does not live", dead.bestSwap(0), -1);
        CHECK.same("bestSwap with one who does not live", dead.bestSwap(1), -1);
    }

    private static void swapsOfSome() {
        TurnWheel x = Check.of("wheel 100;fighter d left speed 10 life 1 plan guard 1;"
                + "fighter a left speed 10 life 1 plan guard 1;fighter b left speed 10 life 1 plan hit 50;"
                + "fighter c right speed 10 life 1 plan hit 9;");
        x.lift(1, 90);
        x.lift(3, 50);
        CHECK.same("bestSwap: not with d, who is as late", x.bestSwap(2), 1);
        CHECK.same("bestSwap of a with b alone", x.bestSwap(1), 2);
        x.push(3, 50);
        x.lift(3, 95);
        CHECK.same("bestSwap: c is too soon for all of them", x.bestSwap(2), -1);
        // b's guard would hold off c's hit if b came later; the one who fell has the gauge for it
        TurnWheel y = Check.of("wheel 100;fighter a left speed 1 life 1 plan rest 1;"
                + "fighter b left speed 10 life 500 luck 1 plan guard 50 lift 1;"
                + "fighter c right speed 10 life 500 plan hit 40 hit 40 rest 1 rest 1 rest 1 rest 1;");
        CHECK.same("a falls, b guards", Check.script(y, "lift c 100;turn 1;lift b 100;turn 1;lift b 100;lift c 100;"), 6);
        CHECK.same("b has its guard", y.fighter(1, 5), 50);
        CHECK.same("the hits that come", y.lifeIn(1, 20), 420);
        CHECK.same("bestSwap with one who fell", y.bestSwap(1), -1);
        CHECK.same("bestSwap of one who fell", y.bestSwap(0), -1);
        y.push(1, 100);
        CHECK.same("it would be better so", y.lifeIn(1, 20), 460);
    }

    private static void places() {
        TurnWheel x = Check.of("wheel 100;fighter a left speed 10 life 100 plan guard 1 hit 50 guard 2 hit 60;"
                + "fighter c right speed 10 life 40 plan hit 30;");
        CHECK.same("bestPlace: the lowest one of several", x.bestPlace(0), 1);
        CHECK.same("bestPlace of one act", x.bestPlace(1), 0);
        CHECK.same("the place is as before", x.fighter(0, 7), 0);
        CHECK.index("bestPlace 2 of 2", () -> x.bestPlace(2));
        CHECK.index("bestPlace -1", () -> x.bestPlace(-1));
        x.play(3);
        CHECK.same("over", x.setting(8), 1);
        CHECK.same("bestPlace of a fight that is over", x.bestPlace(0), 0);
        CHECK.same("bestPlace of one who does not live", x.bestPlace(1), 0);
        TurnWheel last = Check.of("wheel 100;fighter a left speed 10 life 100 plan guard 1 rest 5;"
                + "fighter c right speed 1 life 40 plan push 1;");
        CHECK.same("bestPlace: 10 rests of 19 turns", last.bestPlace(0), 1);
        last.play(1);
        CHECK.same("bestPlace: the place that it has already", last.bestPlace(0), 1);
    }

    private static void nothingChanges() {
        TurnWheel x = Check.of(DUEL + "fighter c left speed 3 life 9 plan rest 1;");
        x.play(1);
        String before = all(x);
        x.turn(9);
        x.turnTime(9);
        x.turnKind(9);
        x.lifeIn(0, 200);
        x.gaugeIn(0, 200);
        x.turnsOf(0, 200);
        x.longestRun(200);
        x.endsIn();
        x.winner();
        x.firstLoss(0);
        x.repeatIn();
        x.cycle();
        x.leastSpeed(1);
        x.bestPush(0, 9);
        x.bestSwap(0);
        x.bestPlace(0);
        x.report();
        CHECK.same("nothing changes by asking", all(x), before);
    }

    private static String all(TurnWheel x) {
        StringBuilder all = new StringBuilder();
        for (int i = 0; i < 10; i++) {
            all.append(x.setting(i)).append(' ');
        }
        for (int f = 0; f < x.setting(0); f++) {
            for (int i = 0; i < 12; i++) {
                all.append(x.fighter(f, i)).append(' ');
            }
        }
        return all.toString();
    }

    private static void boundOfTurns() {
        TurnWheel x = Check.of(ROUND);
        for (int n = 0; n < 101; n++) {
            x.play(99);
        }
        CHECK.state("9999 turns are made", () -> x.play(1));
        CHECK.same("more of them come", x.turn(99) >= 0 ? 1 : 0, 1);
        CHECK.same("turnsOf behind the bound", x.turnsOf(0, 200), 100);
        CHECK.same("repeatIn behind the bound", x.repeatIn(), 4);
    }
}
