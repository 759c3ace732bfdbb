/** Promises 33 to 40: changes. */
public final class ChangesTest {
    private static final Check CHECK = new Check();
    private static final int LEAST = Integer.MIN_VALUE;
    private static final int GREATEST = Integer.MAX_VALUE;
    private static final String DUEL = "wheel 100;fighter a left speed 50 life 20 plan hit 5;"
            + "fighter b right speed 25 life 12 plan hit 4;";

    public static void main(String[] args) {
        playing();
        boundOfPlaying();
        pushing();
        lifting();
        extraTurns();
        settingSpeeds();
        healing();
        settingWheels();
        settingActs();
        CHECK.finish();
    }

    /** One fighter has fallen, and the fight is over. */
    private static TurnWheel over() {
        TurnWheel x = Check.of(DUEL);
        x.play(4);
        return x;
    }

    private static void unchanged(TurnWheel x, int changes) {
        CHECK.same("a call that throws can't be undone", x.setting(9), changes);
    }

    private static void playing() {
        TurnWheel x = Check.of(DUEL);
        CHECK.same("play 1", x.play(1), 1);
        CHECK.same("play 1: the time", x.setting(2), 2);
        CHECK.same("play 1: the hit", x.fighter(1, 2), 7);
        for (int n : new int[] {0, -1, 100, LEAST, GREATEST}) {
            CHECK.argument("play " + n, () -> x.play(n));
        }
        unchanged(x, 1);
        CHECK.same("play until it is over", x.play(99), 3);
        CHECK.same("the time of the last turn", x.setting(2), 6);
        CHECK.state("play when it is over", () -> x.play(1));
        CHECK.argument("play 0 when it is over", () -> x.play(0));
        CHECK.argument("play 100 when it is over", () -> x.play(100));
        unchanged(x, 2);
        CHECK.state("play of nobody", () -> new TurnWheel().play(99));
    }

    private static void boundOfPlaying() {
        TurnWheel x = Check.of("wheel 100;fighter a left speed 50 life 9 plan guard 5;"
                + "fighter b right speed 50 life 9 plan guard 5;");
        for (int n = 0; n < 100; n++) {
            x.play(99);
        }
        CHECK.same("turns", x.setting(3), 9900);
        CHECK.same("up to 9990", x.play(90), 90);
        x.setAct(0, 0, 0, 99);
        CHECK.same("it would be over soon", x.endsIn(), 1);
        CHECK.state("10 turns are too many, though fewer would be made", () -> x.play(10));
        CHECK.same("10 turns are too many for a script", Check.script(x, "turn 10;"), 0);
        x.setAct(0, 0, 3, 5);
        CHECK.same("9 turns are not", x.play(9), 9);
        CHECK.same("9999 turns", x.setting(3), 9999);
        CHECK.same("the time", x.setting(2), 10000);
        CHECK.state("one more", () -> x.play(1));
        CHECK.argument("none more", () -> x.play(0));
        x.undo();
        CHECK.same("some are taken back", x.play(9), 9);
    }

    private static void pushing() {
        TurnWheel x = Check.of(DUEL);
        x.lift(1, 500);
        CHECK.same("push", x.push(1, 120), 380);
        CHECK.same("push: the gauge", x.fighter(1, 4), 380);
        CHECK.same("push to 0", x.push(1, 380), 0);
        x.lift(1, 5);
        CHECK.same("push not below 0", x.push(1, 999), 0);
        CHECK.same("push of nothing left", x.push(1, 1), 0);
        CHECK.same("that can be undone, too", x.setting(9), 6);
        for (int by : new int[] {0, -1, 1000, LEAST, GREATEST}) {
            CHECK.argument("push by " + by, () -> x.push(0, by));
            CHECK.index("push of nobody by " + by, () -> x.push(2, by));
        }
        CHECK.index("push -1", () -> x.push(-1, 1));
        TurnWheel y = over();
        CHECK.state("push of one who does not live", () -> y.push(1, 1));
        CHECK.argument("push by 0 of one who does not live", () -> y.push(1, 0));
        CHECK.same("push of one who lives, when it is over", y.push(0, 1), 0);
        unchanged(y, 2);
    }

    private static void lifting() {
        TurnWheel x = Check.of(DUEL);
        CHECK.same("lift", x.lift(1, 1), 1);
        CHECK.same("lift 999", x.lift(1, 999), 1000);
        CHECK.same("lift: the gauge", x.fighter(1, 4), 1000);
        for (int n = 0; n < 8; n++) {
            x.lift(1, 999);
        }
        CHECK.same("lift to 8993", x.lift(1, 1), 8993);
        CHECK.same("lift to 9992", x.lift(1, 999), 9992);
        CHECK.same("lift to 9999", x.lift(1, 7), 9999);
        CHECK.same("lift at most to 9999", x.lift(1, 999), 9999);
        for (int by : new int[] {0, -1, 1000, LEAST, GREATEST}) {
            CHECK.argument("lift by " + by, () -> x.lift(0, by));
            CHECK.index("lift of nobody by " + by, () -> x.lift(2, by));
        }
        CHECK.index("lift -1", () -> x.lift(-1, 1));
        TurnWheel y = over();
        CHECK.state("lift of one who does not live", () -> y.lift(1, 1));
        CHECK.argument("lift by 1000 of one who does not live", () -> y.lift(1, 1000));
        unchanged(y, 1);
    }

    private static void extraTurns() {
        TurnWheel x = Check.of(DUEL);
        for (int n = 1; n <= 3; n++) {
            CHECK.yes("extra " + n, x.extra(1));
            CHECK.same("extra turns " + n, x.fighter(1, 6), n);
        }
        CHECK.yes("a fourth is refused", !x.extra(1));
        CHECK.same("a fourth is not there", x.fighter(1, 6), 3);
        CHECK.same("a fourth can't be undone", x.setting(9), 3);
        CHECK.yes("another has its own", x.extra(0));
        CHECK.index("extra 2 of 2", () -> x.extra(2));
        CHECK.index("extra -1", () -> x.extra(-1));
        CHECK.index("extra of the least int", () -> x.extra(LEAST));
        x.play(4);
        CHECK.same("extra turns made", x.fighter(1, 10), 3);
        CHECK.same("no ticks for them", x.setting(2), 0);
        TurnWheel y = over();
        CHECK.state("extra for one who does not live", () -> y.extra(1));
        CHECK.yes("extra for one who lives, when it is over", y.extra(0));
        unchanged(y, 2);
    }

    private static void settingSpeeds() {
        TurnWheel x = Check.of(DUEL);
        CHECK.same("setSpeed 1", x.setSpeed(0, 1), 50);
        CHECK.same("setSpeed 99", x.setSpeed(0, 99), 1);
        CHECK.same("setSpeed: the speed", x.fighter(0, 1), 99);
        CHECK.same("setSpeed of the same", x.setSpeed(0, 99), 99);
        CHECK.same("that can be undone, too", x.setting(9), 3);
        for (int speed : new int[] {0, -1, 100, LEAST, GREATEST}) {
            CHECK.argument("setSpeed " + speed, () -> x.setSpeed(0, speed));
            CHECK.index("setSpeed of nobody " + speed, () -> x.setSpeed(2, speed));
        }
        CHECK.index("setSpeed -1", () -> x.setSpeed(-1, 1));
        unchanged(x, 3);
        TurnWheel y = over();
        CHECK.same("setSpeed of one who does not live", y.setSpeed(1, 3), 25);
        CHECK.same("it has it", y.fighter(1, 1), 3);
    }

    private static void healing() {
        TurnWheel x = Check.of(DUEL);
        CHECK.same("heal", x.heal(0, 1), 21);
        CHECK.same("heal: the life", x.fighter(0, 2), 21);
        CHECK.same("heal to 999", x.heal(0, 978), 999);
        CHECK.same("heal at most to 999", x.heal(0, 999), 999);
        for (int by : new int[] {0, -1, 1000, LEAST, GREATEST}) {
            CHECK.argument("heal by " + by, () -> x.heal(0, by));
            CHECK.index("heal of nobody by " + by, () -> x.heal(2, by));
        }
        CHECK.index("heal -1", () -> x.heal(-1, 1));
        unchanged(x, 3);
        TurnWheel y = over();
        CHECK.same("heal of one who does not live", y.heal(1, 5), 5);
        CHECK.same("the fight goes on", y.setting(8), 0);
        CHECK.same("its gauge begins at 0", y.fighter(1, 4), 0);
        CHECK.same("it counts as before", y.fighter(1, 9), 1);
        CHECK.same("play goes on", y.play(1), 1);
    }

    private static void settingWheels() {
        TurnWheel x = Check.of(DUEL);
        CHECK.same("setWheel 999", x.setWheel(999), 100);
        CHECK.same("setWheel 100", x.setWheel(100), 999);
        CHECK.same("setWheel: the wheel", x.setting(1), 100);
        for (int wheel : new int[] {99, 0, -1, 1000, LEAST, GREATEST}) {
            CHECK.argument("setWheel " + wheel, () -> x.setWheel(wheel));
        }
        unchanged(x, 2);
        x.setWheel(200);
        CHECK.same("a turn then takes so much", x.turnTime(0), 4);
        CHECK.same("setWheel of nobody", new TurnWheel().setWheel(500), 300);
    }

    private static void settingActs() {
        TurnWheel x = Check.of("wheel 100;fighter a left speed 50 life 20 plan hit 5 again 3;"
                + "fighter b right speed 25 life 12 plan hit 4;");
        CHECK.same("setAct", x.setAct(0, 1, 2, 999), 4);
        CHECK.same("setAct: the kind", x.actKind(0, 1), 2);
        CHECK.same("setAct: the number", x.actNumber(0, 1), 999);
        CHECK.same("setAct: the other one stays", x.actKind(0, 0), 0);
        for (int kind = 0; kind < 7; kind++) {
            int k = kind;
            int most = Model.MOST[kind];
            x.setAct(1, 0, kind, 1);
            CHECK.same("setAct of the most of kind " + kind, x.setAct(1, 0, kind, most), kind);
            CHECK.same("the most of kind " + kind, x.actNumber(1, 0), most);
            for (int n : new int[] {0, -1, most + 1, LEAST, GREATEST}) {
                CHECK.argument("setAct of kind " + kind + ", " + n, () -> x.setAct(1, 0, k, n));
            }
        }
        for (int i : new int[] {-1, 2, 6, LEAST, GREATEST}) {
            CHECK.argument("setAct " + i, () -> x.setAct(0, i, 0, 1));
            CHECK.index("setAct of nobody " + i, () -> x.setAct(2, i, 0, 1));
        }
        for (int kind : new int[] {-1, 7, LEAST, GREATEST}) {
            CHECK.argument("setAct of kind " + kind, () -> x.setAct(0, 0, kind, 1));
        }
        CHECK.argument("setAct 1 of 1", () -> x.setAct(1, 1, 0, 1));
        CHECK.index("setAct -1", () -> x.setAct(-1, 0, 0, 1));
        x.undo();
        unchanged(x, 5);
        TurnWheel y = over();
        CHECK.same("setAct of one who does not live", y.setAct(1, 0, 6, 9), 0);
    }
}
