/** Terms 2: ticks, who is next, turns and acts. An extra turn lets an act be done without a tick. */
public final class TermsTurnsTest extends Run {
    private static final String THREE = "wheel 100;fighter a left speed 10 life 9 luck 1 plan rest 1;"
            + "fighter b right speed 10 life 9 luck 2 plan rest 1;fighter c left speed 10 life 9 luck 2 plan rest 1;";
    private static final String SLOW = " speed 1 life 9 plan rest 1;";

    public static void main(String[] args) throws IllegalAccessException {
        Sentences.test(TermsTurnsTest.class);
    }

    /** A new object in which fighter 0, on the left, stands against fighter 1 and does these acts. */
    private static TurnWheel actor(String acts, String others) {
        return of("wheel 100;fighter a left speed 1 life 9 plan " + acts + ";" + others);
    }

    private static void act(TurnWheel x, int fighter) {
        x.extra(fighter);
        due(x.turn(0), fighter);
        due(x.play(1), 1);
    }

    // ---- who lives, when it is over

    @Sentence("Terms 2: Each fighter has a gauge (0 at first), a guard (0 at first), extra turns (0 at first) and a"
            + " place in its plan (0 at first).")
    static void allIs0AtFirst(TurnWheel x) {
        text(x, "wheel 100;fighter a left speed 60 life 9 plan guard 5 again 3;"
                + "fighter b right speed 50 life 9 plan rest 1;");
        x.play(3);
        x.lift(0, 7);
        text(x, THREE);
        for (int f = 0; f < 3; f++) {
            for (int what = 4; what <= 7; what++) {
                due(x.fighter(f, what), 0);
            }
        }
    }

    @Sentence("Terms 2: A fighter lives as long as its life is above 0.")
    static void aLifeOf1AndOf0(TurnWheel x) {
        text(x, "wheel 100;fighter a left speed 50 life 1 plan hit 5;fighter b right speed 1 life 6 plan rest 1;");
        x.play(1);
        due(x.fighter(1, 2), 1);
        due(x.setting(4), 2);
        due(x.ticksTo(1), 98);
        x.play(1);
        due(x.fighter(1, 2), 0);
        due(x.setting(4), 1);
        due(x.ticksTo(1), -1);
        due(x.ticksTo(0), 2);
    }

    @Sentence("Terms 2: A fighter lives as long as its life is above 0.")
    static void aFightOfLivesOf1(TurnWheel x) {
        text(x, "wheel 100;fighter a left speed 20 life 1 plan push 30;fighter b left speed 10 life 1 plan lift 40;"
                + "fighter c right speed 10 life 1 plan guard 7;fighter d right speed 40 life 1 plan hit 7;");
        row(x::setting, 4, 100, 0, 0, 4, 2, 2, -1, 0, 0);
        row(x::ticksTo, 5, 10, 10, 3);
        row(x::row, 3, 0, 1, 2, -1);
        due(x.meanSpeed(), 20.0);
        due(x.share(), 0.5f);
        due(x.bestPush(0, 1), 2);
        row(x::turn, 3, 3, -1);
        due(x.endsIn(), 2);
        x.lift(2, 50);
        act(x, 0);
        act(x, 1);
        act(x, 2);
        row(f -> x.fighter(f, 4), 40, 0, 20, 0);
        due(x.fighter(2, 5), 7);
        act(x, 3);
        due(x.fighter(0, 2), 0);
        due(x.setting(8), 0);
        act(x, 3);
        due(x.setting(7), 1);
    }

    @Sentence("Terms 2: The fight is over if not both sides have a fighter who lives.")
    static void whenAFightIsOver(TurnWheel x) {
        due(x.setting(8), 1);
        due(of("fighter a left" + SLOW + "fighter b left" + SLOW).setting(8), 1);
        due(of("fighter a right" + SLOW + "fighter b right" + SLOW).setting(8), 1);
        due(of("fighter a right" + SLOW + "fighter b left" + SLOW).setting(8), 0);
        text(x, DUEL);
        x.play(3);
        due(x.setting(8), 0);
        x.play(1);
        due(x.setting(8), 1);
    }

    @Sentence("Terms 2: The fight is over if not both sides have a fighter who lives.")
    static void aFightGoesOnWhileOneOfEachSideLives(TurnWheel x) {
        text(x, "wheel 100;fighter a left speed 50 life 9 plan hit 5;fighter b right speed 1 life 5 plan rest 1;"
                + "fighter c right speed 1 life 6 plan rest 1;");
        x.play(1);
        due(x.fighter(1, 2), 0);
        due(x.setting(8), 0);
        due(x.play(9), 2);
        due(x.setting(8), 1);
    }

    // ---- who is next

    @Sentence("Terms 2: of those who live and have extra turns the one with the lowest number")
    static void extraTurnsOfTheLowestNumber(TurnWheel x) {
        text(x, THREE);
        x.lift(2, 500);
        extras(x, 2, 2);
        x.extra(1);
        row(x::turn, 1, 2, 2);
        x.extra(0);
        row(x::turn, 0, 1, 2, 2);
    }

    @Sentence("Terms 2: if there are none, of those who live and whose gauge is at least the wheel")
    static void extraTurnsComeBeforeAFullGauge(TurnWheel x) {
        text(x, THREE);
        x.lift(0, 999);
        x.extra(2);
        row(x::turn, 2, 0);
        row(x::turnTime, 0, 0);
    }

    @Sentence("Terms 2: whose gauge is at least the wheel")
    static void aGaugeOfJustTheWheel(TurnWheel x) {
        text(x, THREE);
        x.lift(0, 100);
        due(x.turn(0), 0);
        due(x.turnTime(0), 0);
        x.push(0, 1);
        due(x.turn(0), 0);
        due(x.turnTime(0), 1);
    }

    @Sentence("Terms 2: the one with the greatest gauge, of several the one with the greatest luck, of these the lowest"
            + " number")
    static void theGreatestGauge(TurnWheel x) {
        text(x, THREE);
        x.lift(0, 101);
        x.lift(1, 100);
        x.lift(2, 102);
        row(x::turn, 2, 0, 1);
        row(x::turnTime, 0, 0, 0);
    }

    @Sentence("Terms 2: of several the one with the greatest luck, of these the lowest number")
    static void theGreatestLuckThenTheLowestNumber(TurnWheel x) {
        text(x, THREE);
        for (int f = 0; f < 3; f++) {
            x.lift(f, 100);
        }
        row(x::turn, 1, 2, 0);
    }

    @Sentence("Terms 2: If there is nobody such, ticks go by until there is: with each the time becomes 1 more, and the"
            + " gauge of each fighter who lives becomes as much more as its speed is.")
    static void ticksUntilSomebodyIsNext(TurnWheel x) {
        text(x, "wheel 100;fighter a left speed 33 life 9 plan rest 1;fighter b right speed 7 life 9 plan rest 1;");
        x.play(1);
        due(x.setting(2), 4);
        due(x.fighter(0, 4), 32);
        due(x.fighter(1, 4), 28);
        x.play(1);
        due(x.setting(2), 7);
        due(x.fighter(0, 4), 31);
        due(x.fighter(1, 4), 49);
    }

    @Sentence("Terms 2: If there is nobody such, ticks go by until there is")
    static void noTickIfSomebodyIsNext(TurnWheel x) {
        text(x, THREE);
        x.lift(0, 200);
        x.extra(1);
        x.play(3);
        due(x.setting(2), 0);
        due(x.fighter(2, 4), 0);
        x.play(1);
        due(x.setting(2), 10);
    }

    @Sentence("Terms 2: If there is nobody such, ticks go by until there is")
    static void theMostTicks(TurnWheel x) {
        text(x, "wheel 999;fighter a left speed 1 life 9 plan rest 1;fighter b right speed 1 life 9 plan rest 1;");
        due(x.play(2), 2);
        due(x.setting(2), 999);
        due(x.turnTime(99), 999 * 51);
    }

    @Sentence("Terms 2: the gauge of each fighter who lives becomes as much more as its speed is")
    static void noGaugeForOneWhoFell(TurnWheel x) {
        text(x, "wheel 100;fighter a left speed 50 life 9 plan hit 5;fighter b right speed 60 life 5 plan rest 1;"
                + "fighter c right speed 3 life 90 plan rest 1;");
        act(x, 0);
        due(x.fighter(1, 2), 0);
        row(x::turn, 0, 0, 0);
        x.play(3);
        due(x.fighter(1, 4), 0);
        due(x.fighter(2, 4), 18);
    }

    // ---- a turn

    @Sentence("Terms 2: if it has extra turns, it has one less; otherwise its gauge becomes less by the wheel (by an"
            + " extra turn it stays, whatever it is)")
    static void anExtraTurnLeavesTheGauge(TurnWheel x) {
        text(x, THREE);
        x.lift(0, 250);
        x.extra(0);
        x.extra(0);
        x.extra(1);
        x.play(1);
        due(x.fighter(0, 4), 250);
        due(x.fighter(0, 6), 1);
        x.play(2);
        due(x.fighter(0, 4), 250);
        due(x.fighter(0, 6), 0);
        due(x.fighter(1, 4), 0);
        due(x.fighter(1, 6), 0);
    }

    @Sentence("Terms 2: otherwise its gauge becomes less by the wheel")
    static void aTurnTakesTheWheelOfAGauge(TurnWheel x) {
        text(x, THREE);
        x.lift(0, 250);
        x.play(1);
        due(x.fighter(0, 4), 150);
        x.play(1);
        due(x.fighter(0, 4), 50);
        x.lift(0, 50);
        x.play(1);
        due(x.fighter(0, 4), 0);
        due(x.fighter(0, 10), 0);
    }

    @Sentence("Terms 2: Its guard becomes 0.")
    static void theGuardEndsWithTheNextTurn(TurnWheel x) {
        text(x, "wheel 100;fighter a left speed 50 life 9 plan guard 9 rest 1 guard 8;"
                + "fighter b right speed 50 life 9 plan rest 1;");
        x.play(1);
        due(x.fighter(0, 5), 9);
        x.play(1);
        due(x.fighter(0, 5), 9);
        x.play(1);
        due(x.fighter(0, 5), 0);
        x.play(2);
        due(x.fighter(0, 5), 8);
        act(x, 0);
        due(x.fighter(0, 5), 9);
        act(x, 0);
        due(x.fighter(0, 5), 0);
    }

    @Sentence("Terms 2: its place becomes the next one (behind the last one the first)")
    static void thePlacesGoRound(TurnWheel x) {
        text(x, "wheel 100;fighter a left speed 50 life 9 plan rest 1 rest 2 rest 3 rest 4 rest 5 rest 6;"
                + "fighter b right speed 1 life 9 plan rest 1;fighter c right speed 1 life 9 plan rest 1 rest 2;");
        for (int n = 1; n <= 13; n++) {
            x.play(1);
            due(x.fighter(0, 7), n % 6);
        }
        due(x.fighter(0, 2), 9 + 2 * 21 + 1);
        act(x, 1);
        due(x.fighter(1, 7), 0);
        act(x, 2);
        due(x.fighter(2, 7), 1);
        act(x, 2);
        due(x.fighter(2, 7), 0);
    }

    // ---- hit

    @Sentence("Terms 2: hit: of the fighters of the other side who live the one with the least life, of several the"
            + " lowest number")
    static void hitOfTheLeastLife(TurnWheel x) {
        text(x, "wheel 100;fighter a left speed 50 life 9 plan hit 5;fighter b right speed 1 life 7 plan rest 1;"
                + "fighter c right speed 1 life 4 plan rest 1;fighter d right speed 1 life 4 plan rest 1;"
                + "fighter e left speed 1 life 1 plan rest 1;");
        row(n -> x.lifeIn(2, n), 4, 0, 0, 0, 0);
        row(n -> x.lifeIn(3, n), 4, 4, 0, 0, 0);
        row(n -> x.lifeIn(1, n), 7, 7, 7, 2, 0);
        row(n -> x.lifeIn(4, n), 1, 1, 1, 1, 1);
        row(n -> x.lifeIn(0, n), 9, 9, 9, 9, 9);
    }

    @Sentence("Terms 2: hit: of the fighters of the other side")
    static void hitOfTheRightSide(TurnWheel x) {
        text(x, "wheel 100;fighter a right speed 50 life 3 plan hit 2;fighter b left speed 1 life 7 plan rest 1;"
                + "fighter c right speed 1 life 1 plan rest 1;fighter d left speed 1 life 6 plan rest 1;");
        x.play(1);
        due(x.fighter(3, 2), 4);
        due(x.setting(5), 11);
        due(x.setting(6), 4);
    }

    @Sentence("Terms 2: loses as much life as N is above its guard, which stays (nothing if it is not, and no more"
            + " than it has)")
    static void hitAboveTheGuard(TurnWheel x) {
        text(x, "wheel 100;fighter a left speed 50 life 9 plan hit 5 hit 6 hit 7 hit 99;"
                + "fighter b right speed 1 life 200 plan guard 6;");
        act(x, 1);
        row(n -> x.lifeIn(1, n), 200, 200, 200, 199, 106);
        x.play(2);
        due(x.fighter(0, 11), 0);
        x.play(2);
        due(x.fighter(1, 5), 6);
        due(x.fighter(0, 11), 94);
    }

    @Sentence("Terms 2: no more than it has")
    static void hitOfMoreThanThereIs(TurnWheel x) {
        text(x, "wheel 100;fighter a left speed 50 life 9 plan hit 99;fighter b right speed 1 life 30 plan rest 1;"
                + "fighter c right speed 1 life 99 plan rest 1;");
        x.play(1);
        due(x.fighter(1, 2), 0);
        due(x.fighter(0, 11), 30);
        x.play(1);
        due(x.fighter(2, 2), 0);
        due(x.fighter(0, 11), 129);
    }

    @Sentence("Terms 2: If it has none left, its life, gauge, guard and extra turns become 0.")
    static void whatOneWhoFallsKeeps(TurnWheel x) {
        text(x, "wheel 100;fighter a left speed 50 life 9 plan hit 5;"
                + "fighter b right speed 40 life 3 luck 4 plan guard 2 rest 1;"
                + "fighter c right speed 1 life 9 plan rest 1;");
        act(x, 1);
        x.lift(1, 77);
        x.extra(1);
        x.extra(1);
        act(x, 0);
        row(what -> x.fighter(1, what), 1, 40, 0, 4, 0, 0, 0, 1, 2, 1, 1, 0);
        due(x.fighter(0, 11), 3);
    }

    @Sentence("Terms 2: If it has none left, its life, gauge, guard and extra turns become 0.")
    static void oneWithALifeOf1LeftKeepsAll(TurnWheel x) {
        text(x, "wheel 100;fighter a left speed 50 life 9 plan hit 5;"
                + "fighter b right speed 40 life 4 plan guard 2 rest 1;");
        act(x, 1);
        x.lift(1, 77);
        x.extra(1);
        act(x, 0);
        row(what -> x.fighter(1, what), 1, 40, 1, 0, 77, 2, 1, 1);
    }

    // ---- push and lift

    @Sentence("Terms 2: push: of the fighters of the other side who live the one with the greatest gauge, of several"
            + " the lowest number")
    static void pushOfTheGreatestGauge(TurnWheel x) {
        text(x, "wheel 100;fighter a left speed 1 life 9 plan push 70;fighter b right" + SLOW + "fighter c right" + SLOW
                + "fighter d right" + SLOW + "fighter e left" + SLOW);
        x.lift(1, 30);
        x.lift(2, 90);
        x.lift(3, 90);
        x.lift(4, 99);
        act(x, 0);
        row(f -> x.fighter(f, 4), 0, 30, 20, 90, 99);
        act(x, 0);
        row(f -> x.fighter(f, 4), 0, 30, 20, 20, 99);
    }

    @Sentence("Terms 2: push: of the fighters of the other side")
    static void pushOfTheLeftSide(TurnWheel x) {
        text(x, mirrored("wheel 100;fighter a left speed 1 life 9 plan push 70;"
                + "fighter b right" + SLOW + "fighter c right"
                + SLOW + "fighter e left" + SLOW));
        x.lift(1, 80);
        x.lift(2, 90);
        x.lift(3, 99);
        act(x, 0);
        row(f -> x.fighter(f, 4), 0, 80, 20, 99);
    }

    @Sentence("Terms 2: its gauge becomes N less, but not below 0")
    static void pushNotBelow0(TurnWheel x) {
        int[] gauges = {0, 1, 69, 70, 71, 150};
        int[] left = {0, 0, 0, 0, 1, 80};
        for (int i = 0; i < gauges.length; i++) {
            TurnWheel y = actor("push 70", "fighter b right" + SLOW);
            lift(y, 1, gauges[i]);
            act(y, 0);
            due(y.fighter(1, 4), left[i]);
        }
    }

    @Sentence("Terms 2: lift: of the other fighters of its side who live the one with the least gauge, of several the"
            + " lowest number")
    static void liftOfTheLeastGauge(TurnWheel x) {
        text(x, "wheel 100;fighter a left speed 1 life 9 plan lift 70;fighter b left" + SLOW + "fighter c left" + SLOW
                + "fighter d left" + SLOW + "fighter e right" + SLOW);
        x.lift(1, 30);
        x.lift(2, 10);
        x.lift(3, 10);
        act(x, 0);
        row(f -> x.fighter(f, 4), 0, 30, 80, 10, 0);
        act(x, 0);
        row(f -> x.fighter(f, 4), 0, 30, 80, 80, 0);
        act(x, 0);
        row(f -> x.fighter(f, 4), 0, 100, 80, 80, 0);
    }

    @Sentence("Terms 2: lift: of the other fighters of its side")
    static void liftOfTheRightSide(TurnWheel x) {
        text(x, mirrored("wheel 100;fighter e right" + SLOW + "fighter b left" + SLOW + "fighter c left" + SLOW
                + "fighter a left speed 1 life 9 plan lift 70;"));
        x.lift(1, 30);
        x.lift(2, 10);
        act(x, 3);
        row(f -> x.fighter(f, 4), 0, 30, 80, 0);
    }

    @Sentence("Terms 2: its gauge becomes N more, but at most 9999")
    static void liftAtMost9999(TurnWheel x) {
        int[] gauges = {9000, 9899, 9900, 9901, 9999};
        int[] then = {9099, 9998, 9999, 9999, 9999};
        for (int i = 0; i < gauges.length; i++) {
            TurnWheel y = actor("lift 99", "fighter b right" + SLOW + "fighter c left" + SLOW);
            lift(y, 2, gauges[i]);
            act(y, 0);
            due(y.fighter(2, 4), then[i]);
        }
    }

    @Sentence("Terms 2: Without such a one nothing is done.")
    static void liftOfOneWhoIsAlone(TurnWheel x) {
        text(x, "wheel 100;fighter a left speed 1 life 9 plan lift 70 rest 1;fighter b right" + SLOW);
        act(x, 0);
        row(f -> x.fighter(f, 4), 0, 0);
        due(x.fighter(0, 7), 1);
        due(x.setting(3), 1);
    }

    @Sentence("Terms 2: of the other fighters of its side who live")
    static void liftWithoutAnotherWhoLives(TurnWheel x) {
        text(x, "wheel 100;fighter a left speed 1 life 9 plan lift 70;fighter b left speed 1 life 2 plan rest 1;"
                + "fighter c right speed 1 life 9 plan hit 2 rest 1;");
        act(x, 2);
        due(x.fighter(1, 2), 0);
        act(x, 0);
        row(f -> x.fighter(f, 4), 0, 0, 0);
        x.heal(1, 1);
        act(x, 0);
        row(f -> x.fighter(f, 4), 0, 70, 0);
    }

    // ---- guard, again, speed, rest

    @Sentence("Terms 2: guard: its guard becomes N.")
    static void aGuardIsNotAdded(TurnWheel x) {
        text(x, "wheel 100;fighter a left speed 1 life 9 plan guard 99 guard 1;fighter b right" + SLOW);
        act(x, 0);
        due(x.fighter(0, 5), 99);
        act(x, 0);
        due(x.fighter(0, 5), 1);
    }

    @Sentence("Terms 2: again: it has N extra turns more, but at most 3.")
    static void againAtMost3(TurnWheel x) {
        int[] extras = {0, 0, 0, 1, 1, 1, 2, 2, 2};
        int[] numbers = {1, 2, 3, 1, 2, 3, 1, 2, 3};
        int[] then = {1, 2, 3, 2, 3, 3, 3, 3, 3};
        for (int i = 0; i < extras.length; i++) {
            TurnWheel y = actor("again " + numbers[i], "fighter b right" + SLOW);
            extras(y, 0, extras[i] + 1);
            y.play(1);
            due(y.fighter(0, 6), then[i]);
        }
        text(x, "wheel 100;fighter a left speed 50 life 9 plan again 2;fighter b right" + SLOW);
        x.play(1);
        due(x.fighter(0, 6), 2);
    }

    @Sentence("Terms 2: speed: its speed becomes N.")
    static void theSpeedOfAnAct(TurnWheel x) {
        text(x, "wheel 100;fighter a left speed 50 life 9 plan speed 1 speed 99;fighter b right" + SLOW);
        x.play(1);
        due(x.fighter(0, 1), 1);
        due(x.ticksTo(0), 100);
        act(x, 0);
        due(x.fighter(0, 1), 99);
        due(x.ticksTo(0), 2);
    }

    @Sentence("Terms 2: rest: its life becomes N more, but at most 999.")
    static void restAtMost999(TurnWheel x) {
        int[] lives = {1, 900, 949, 950, 951, 999};
        int[] then = {51, 950, 999, 999, 999, 999};
        for (int i = 0; i < lives.length; i++) {
            TurnWheel y = of("fighter a left speed 1 life " + lives[i] + " plan rest 50;fighter b right" + SLOW);
            act(y, 0);
            due(y.fighter(0, 2), then[i]);
        }
    }
}
