import java.util.function.IntUnaryOperator;

/** Promises 17 to 32: what comes. */
public final class Promises17To32Test extends Run {
    /** Behind turn 6 all is as behind turn 2. */
    private static final String ROUND = "wheel 100;fighter a left speed 50 life 9 plan guard 5;"
            + "fighter b right speed 50 life 9 plan guard 5 guard 7;";
    /** Turn 199 is the first one of a; what b and c do changes nothing. */
    private static final String LATE = "wheel 999;fighter b right speed 99 life 9 luck 1 plan speed 99;"
            + "fighter c right speed 99 life 9 luck 1 plan speed 99;fighter a left speed 1 life 9 plan hit 5;";
    private static final String SOLE = "fighter a right speed 1 life 1 plan hit 1;";

    public static void main(String[] args) throws IllegalAccessException {
        Sentences.test(Promises17To32Test.class);
    }

    /** A fight of 2 * life turns: the first fighter does nothing, the second takes 1 of its life a turn. */
    private static String longFight(int life) {
        return "wheel 100;fighter b right speed 50 life " + life + " plan lift 1;"
                + "fighter a left speed 50 life 9 plan hit 1;";
    }

    private static void over(TurnWheel x) {
        text(x, DUEL);
        x.play(4);
    }

    private static void outOfRange(IntUnaryOperator call, int... numbers) {
        for (int n : numbers) {
            argument(() -> call.applyAsInt(n));
        }
    }

    // ---- 17 to 19

    @Sentence("Promise 17: Returns the fighter who makes turn i that comes, from 0; NONE if the fight is over before.")
    static void whoMakesATurn(TurnWheel x) {
        due(x.turn(0), -1);
        due(x.turn(99), -1);
        due(of(ROUND).turn(99), 1);
        due(of(SOLE).turn(0), -1);
        text(x, DUEL);
        row(x::turn, 0, 0, 1, 0, -1, -1);
        due(x.turn(99), -1);
        x.play(2);
        row(x::turn, 1, 0, -1);
        x.play(2);
        row(x::turn, -1, -1);
    }

    @Sentence("Promise 17: NONE if the fight is over before")
    static void theLastTurnThatCanBeAsked(TurnWheel x) {
        text(x, longFight(50));
        due(x.turn(98), 0);
        due(x.turn(99), 1);
        due(x.turnTime(99), 100);
        due(x.turnKind(99), 0);
        x.play(1);
        due(x.turn(98), 1);
        due(x.turn(99), -1);
        due(x.turnTime(99), -1);
        due(x.turnKind(99), -1);
    }

    @Sentence("Promise 17: @throws IllegalArgumentException if i is not 0 to 99.")
    static void numbersOfNoTurn(TurnWheel x) {
        outOfRange(x::turn, -1, 100, LEAST, GREATEST);
        text(x, ROUND);
        outOfRange(x::turn, -1, 100, LEAST, GREATEST);
    }

    @Sentence("Promise 18: Returns the time at that turn; NONE likewise.")
    static void theTimeOfATurn(TurnWheel x) {
        due(x.turnTime(0), -1);
        due(of(ROUND).turnTime(99), 100);
        text(x, DUEL);
        row(x::turnTime, 2, 4, 4, 6, -1, -1);
        due(x.turnTime(99), -1);
        x.play(2);
        row(x::turnTime, 4, 6, -1);
        x.extra(1);
        row(x::turnTime, 4, 4, 6, -1);
    }

    @Sentence("The public face: public int turnTime(int i) throws IllegalArgumentException;")
    static void timesOfNoTurn(TurnWheel x) {
        outOfRange(x::turnTime, -1, 100, LEAST, GREATEST);
        text(x, ROUND);
        outOfRange(x::turnTime, -1, 100, LEAST, GREATEST);
    }

    @Sentence("Promise 19: Returns the kind of the act that is done in that turn; NONE likewise.")
    static void theKindOfATurn(TurnWheel x) {
        due(x.turnKind(0), -1);
        due(of(ROUND).turnKind(99), 3);
        text(x, "wheel 100;fighter a left speed 50 life 9 plan hit 1 push 1 lift 1 guard 1 speed 50 rest 1;"
                + "fighter b right speed 1 life 3 plan again 1;");
        row(x::turnKind, 0, 1, 2, 3, 5, 6, 0, 1, 2, 3, 5, 6, 0, -1);
        x.extra(1);
        row(x::turnKind, 4, 4, 4);
        x.undo();
        x.play(12);
        row(x::turnKind, 0, -1);
        due(x.turnKind(99), -1);
    }

    @Sentence("The public face: public int turnKind(int i) throws IllegalArgumentException;")
    static void kindsOfNoTurn(TurnWheel x) {
        outOfRange(x::turnKind, -1, 100, LEAST, GREATEST);
        text(x, ROUND);
        outOfRange(x::turnKind, -1, 100, LEAST, GREATEST);
    }

    // ---- 20 to 22

    @Sentence("Promise 20: Returns the life that a fighter has behind some turns that come (or as the fight is over).")
    static void theLifeThen(TurnWheel x) {
        text(x, "wheel 100;fighter b right speed 50 life 9 plan lift 1;fighter a left speed 50 life 9 plan rest 1;");
        due(x.lifeIn(1, 0), 9);
        due(x.lifeIn(1, 1), 9);
        due(x.lifeIn(1, 2), 10);
        due(x.lifeIn(1, 199), 108);
        due(x.lifeIn(1, 200), 109);
        text(x, DUEL);
        row(n -> x.lifeIn(1, n), 12, 7, 2, 2, 0, 0);
        row(n -> x.lifeIn(0, n), 20, 20, 20, 16, 16, 16);
        due(x.lifeIn(0, 200), 16);
        due(x.lifeIn(1, 200), 0);
    }

    @Sentence("Promise 20: @throws IllegalArgumentException if turns is not 0 to 200.")
    static void turnsOutOfRangeForALife(TurnWheel x) {
        text(x, DUEL);
        outOfRange(n -> x.lifeIn(0, n), -1, 201, LEAST, GREATEST);
        x.play(4);
        outOfRange(n -> x.lifeIn(0, n), -1, 201);
    }

    @Sentence("Promise 21: Returns the gauge that a fighter has then.")
    static void theGaugeThen(TurnWheel x) {
        text(x, longFight(999));
        due(x.gaugeIn(1, 199), 100);
        due(x.gaugeIn(1, 200), 0);
        text(x, DUEL);
        row(n -> x.gaugeIn(0, n), 0, 0, 0, 0, 0, 0);
        row(n -> x.gaugeIn(1, n), 0, 50, 100, 0, 0, 0);
        x.lift(1, 30);
        due(x.gaugeIn(1, 0), 30);
        x.play(4);
        x.lift(0, 77);
        due(x.gaugeIn(0, 200), 77);
    }

    @Sentence("Promise 21: @throws IllegalArgumentException if turns is not 0 to 200.")
    static void turnsOutOfRangeForAGauge(TurnWheel x) {
        text(x, DUEL);
        outOfRange(n -> x.gaugeIn(0, n), -1, 201, LEAST, GREATEST);
        x.play(4);
        outOfRange(n -> x.gaugeIn(0, n), -1, 201);
    }

    @Sentence("Promise 22: Returns how many of some turns that come a fighter makes.")
    static void theTurnsOfAFighter(TurnWheel x) {
        text(x, longFight(999));
        due(x.turnsOf(1, 199), 99);
        due(x.turnsOf(1, 200), 100);
        text(x, DUEL);
        row(n -> x.turnsOf(0, n), 0, 1, 2, 2, 3, 3);
        row(n -> x.turnsOf(1, n), 0, 0, 0, 1, 1, 1);
        due(x.turnsOf(0, 200), 3);
        x.play(1);
        row(n -> x.turnsOf(0, n), 0, 1, 1, 2, 2);
        x.extra(1);
        row(n -> x.turnsOf(1, n), 0, 1, 1, 2, 2);
    }

    @Sentence("Promise 22: @throws IllegalArgumentException if turns is not 0 to 200.")
    static void turnsOutOfRangeForTurns(TurnWheel x) {
        text(x, DUEL);
        outOfRange(n -> x.turnsOf(0, n), -1, 201, LEAST, GREATEST);
        x.play(4);
        outOfRange(n -> x.turnsOf(0, n), -1, 201);
    }

    // ---- 23

    @Sentence("Promise 23: Returns the most turns that one fighter makes one behind the other in some turns that come")
    static void theLongestRun(TurnWheel x) {
        text(x, ROUND);
        row(x::longestRun, 0, 1, 1, 1);
        due(x.longestRun(200), 1);
        x.extra(0);
        extras(x, 1, 3);
        // a, b, b, b, then at time 2 a and b
        row(x::longestRun, 0, 1, 1, 2, 3, 3, 3);
        due(x.longestRun(200), 3);
        x.play(2);
        row(x::longestRun, 0, 1, 2, 2, 2);
        extras(x, 0, 3);
        // a, a, a, b, b, then a
        row(x::longestRun, 0, 1, 2, 3, 3, 3, 3);
    }

    @Sentence("Promise 23: in some turns that come")
    static void aRunOfAllTurnsThatCome(TurnWheel x) {
        text(x, "wheel 100;fighter b right speed 9 life 9 plan hit 1;fighter a left speed 99 life 9 plan push 999;");
        due(x.longestRun(1), 1);
        due(x.longestRun(199), 199);
        due(x.longestRun(200), 200);
    }

    @Sentence("Promise 23: 0 if there are none")
    static void noRun(TurnWheel x) {
        due(x.longestRun(0), 0);
        due(x.longestRun(200), 0);
        text(x, DUEL);
        due(x.longestRun(0), 0);
        row(x::longestRun, 0, 1, 2, 2, 2, 2);
        x.play(4);
        due(x.longestRun(200), 0);
    }

    @Sentence("Promise 23: @throws IllegalArgumentException if turns is not 0 to 200.")
    static void turnsOutOfRangeForARun(TurnWheel x) {
        outOfRange(x::longestRun, -1, 201, LEAST, GREATEST);
        text(x, DUEL);
        outOfRange(x::longestRun, -1, 201, LEAST, GREATEST);
    }

    // ---- 24 to 26

    @Sentence("Promise 24: Returns behind how many turns that come the fight is over, 0 if it is; NONE if it is not"
            + " within 200.")
    static void whenItEnds(TurnWheel x) {
        due(x.endsIn(), 0);
        due(of(SOLE).endsIn(), 0);
        text(x, DUEL);
        due(x.endsIn(), 4);
        x.play(3);
        due(x.endsIn(), 1);
        x.play(1);
        due(x.endsIn(), 0);
        x.heal(1, 1);
        due(x.endsIn(), 1);
    }

    @Sentence("Promise 24: NONE if it is not within 200")
    static void anEndBehind200Turns(TurnWheel x) {
        text(x, longFight(100));
        due(x.endsIn(), 200);
        x.extra(0);
        due(x.endsIn(), -1);
        x.play(1);
        due(x.endsIn(), 200);
        x.play(1);
        due(x.endsIn(), 199);
        due(of(ROUND).endsIn(), -1);
    }

    @Sentence("Promise 25: Returns the side that wins within 200 turns that come (or has won)")
    static void whoWins(TurnWheel x) {
        due(of(SOLE).winner(), 1);
        due(of(mirrored(SOLE)).winner(), 0);
        text(x, DUEL);
        due(x.winner(), 0);
        x.setSpeed(1, 84);
        due(x.winner(), 1);
        x.undo();
        x.play(4);
        due(x.winner(), 0);
        x.heal(1, 100);
        due(x.winner(), 1);
    }

    @Sentence("Promise 25: NONE if the fight is not over then, or nobody lives then")
    static void nobodyWins(TurnWheel x) {
        due(x.winner(), -1);
        due(of(ROUND).winner(), -1);
        text(x, longFight(100));
        due(x.winner(), 0);
        x.extra(0);
        due(x.winner(), -1);
        x.play(1);
        due(x.winner(), 0);
    }

    @Sentence("Promise 26: Returns which turn that comes, from 1, is the first in which a fighter loses life, up to"
            + " 200; NONE if there is none such.")
    static void theFirstLoss(TurnWheel x) {
        text(x, DUEL);
        due(x.firstLoss(0), 3);
        due(x.firstLoss(1), 1);
        x.play(3);
        due(x.firstLoss(0), -1);
        due(x.firstLoss(1), 1);
        x.play(1);
        due(x.firstLoss(0), -1);
        due(x.firstLoss(1), -1);
    }

    @Sentence("Promise 26: is the first in which a fighter loses life")
    static void aHitOrARestThatTakesNothingIsNoLoss(TurnWheel x) {
        text(x, "wheel 100;fighter a left speed 50 life 9 plan hit 5 hit 6 hit 7;"
                + "fighter b right speed 50 life 90 luck 1 plan guard 6 rest 1 guard 6;");
        // b guards, a hits 5; b rests, a hits 6
        due(x.firstLoss(1), 4);
        x.setAct(1, 1, 3, 6);
        due(x.firstLoss(1), 6);
        due(x.firstLoss(0), -1);
    }

    @Sentence("Promise 26: up to 200; NONE if there is none such")
    static void aLossInTurn200(TurnWheel x) {
        text(x, LATE);
        due(x.firstLoss(0), 199);
        x.extra(0);
        due(x.firstLoss(0), 200);
        x.extra(0);
        due(x.firstLoss(0), -1);
    }

    // ---- 27 and 28

    private static void repeats(TurnWheel x, int in, int cycle) {
        due(x.repeatIn(), in);
        due(x.cycle(), cycle);
        due(x.repeatIn(), in);
    }

    /** Fighter a against b, who does nothing; each makes a turn in two ticks. */
    private static String against(String acts, String life) {
        return "wheel 100;fighter a left speed 50 life " + life + " plan " + acts + ";"
                + "fighter b right speed 50 life 9 plan speed 50;";
    }

    @Sentence("Promise 27: behind which all fighters (those who do not live, too) have the same life, speed, gauge,"
            + " guard, extra turns and place in the plan as behind some fewer turns (0: now)")
    static void allComesAgain(TurnWheel x) {
        text(x, ROUND);
        repeats(x, 6, 4);
        x.play(1);
        repeats(x, 5, 4);
        x.play(1);
        repeats(x, 4, 4);
        repeats(of(against("speed 50", "9")), 2, 2);
    }

    @Sentence("Promise 27: have the same life")
    static void onlyTheLifeIsAnother(TurnWheel x) {
        repeats(of(against("rest 1", "998")), 3, 2);
        repeats(of(against("rest 1", "999")), 2, 2);
        repeats(of(against("rest 1", "900")), 199, 2);
        repeats(of(against("rest 1", "800")), -1, -1);
    }

    @Sentence("Promise 27: have the same life, speed")
    static void onlyTheSpeedIsAnother(TurnWheel x) {
        text(x, "wheel 100;fighter a left speed 10 life 9 plan lift 1;fighter b right speed 10 life 9 plan speed 50;");
        repeats(x, 8, 6);
    }

    @Sentence("Promise 27: have the same life, speed, gauge")
    static void onlyTheGaugeIsAnother(TurnWheel x) {
        text(x, "wheel 100;fighter a left speed 50 life 9 plan speed 50;"
                + "fighter b right speed 25 life 9 plan speed 25;");
        repeats(x, 3, 3);
        x.lift(1, 1);
        repeats(x, 3, 3);
        x.lift(1, 49);
        repeats(x, 3, 3);
        x.lift(1, 99);
        repeats(x, 4, 3);
    }

    @Sentence("Promise 27: have the same life, speed, gauge")
    static void aGreatGaugeIsAnotherThanASmallOne(TurnWheel x) {
        // a makes 64 turns at time 0, to a gauge of 100 and a speed of 51; in 128 ticks it makes 51 and b one more
        text(x, "wheel 128;fighter a left speed 50 life 9 plan speed 51;fighter b right speed 1 life 9 plan lift 1;");
        script(x, lifts("a", 100 + 64 * 128));
        repeats(x, 116, 52);
    }

    @Sentence("Promise 27: have the same life, speed, gauge, guard")
    static void onlyTheGuardIsAnother(TurnWheel x) {
        repeats(of(against("guard 5", "9")), 3, 2);
        repeats(of(against("guard 5 guard 6", "9")), 5, 4);
    }

    @Sentence("Promise 27: have the same life, speed, gauge, guard, extra turns")
    static void onlyTheExtraTurnsAreOthers(TurnWheel x) {
        text(x, against("speed 50", "9"));
        x.extra(0);
        repeats(x, 3, 2);
        extras(x, 0, 2);
        repeats(x, 5, 2);
    }

    @Sentence("Promise 27: extra turns and place in the plan")
    static void onlyThePlaceIsAnother(TurnWheel x) {
        repeats(of(against("speed 50 speed 50", "9")), 4, 4);
        repeats(of(against("speed 50 speed 50 speed 50 speed 50 speed 50 speed 50", "9")), 12, 12);
    }

    @Sentence("Promise 27: have the same life, speed, gauge, guard, extra turns and place in the plan")
    static void twoNumbersAreOthers(TurnWheel x) {
        // an extra turn at place 0, or none at place 4
        text(x, against("speed 50 speed 50 speed 50 speed 50 speed 50 speed 50", "9"));
        x.extra(0);
        repeats(x, 13, 12);
        // each round takes 1 of a's gauge, and its guard is great
        text(x, "wheel 100;fighter a left speed 50 life 9 plan guard 70;fighter b right speed 50 life 9 plan push 1;");
        x.lift(0, 10);
        repeats(x, 22, 2);
        // each round of 6 turns adds 1 to a's life, and its speed is great
        text(x, "wheel 100;fighter a left speed 75 life 990 plan rest 1 speed 75 speed 75;"
                + "fighter b right speed 75 life 9 plan speed 75;");
        repeats(x, 55, 6);
    }

    @Sentence("Promise 27: all fighters (those who do not live, too)")
    static void oneWhoFellIsAnotherThanBefore(TurnWheel x) {
        text(x, "wheel 100;fighter a left speed 50 life 9 plan hit 1;fighter b right speed 50 life 9 plan guard 99;"
                + "fighter c right speed 1 life 1 plan rest 1;");
        x.extra(1);
        x.play(1);
        repeats(x, 3, 2);
    }

    @Sentence("Promise 27: Returns the least number of turns that come, 1 to 200")
    static void allComesAgainInOneTurn(TurnWheel x) {
        text(x, "wheel 100;fighter a left speed 10 life 9 plan again 1;fighter b right speed 1 life 9 plan lift 1;");
        repeats(x, 2, 1);
        x.play(1);
        repeats(x, 1, 1);
    }

    @Sentence("Promise 27: the least number of turns that come, 1 to 200")
    static void allComesAgainIn200Turns(TurnWheel x) {
        // all comes again when 999 ticks are gone: 99 turns of a and 98 of b
        text(x, "wheel 999;fighter a left speed 99 life 9 plan guard 1;fighter b right speed 98 life 9 plan guard 1;");
        repeats(x, 199, 197);
        x.extra(0);
        repeats(x, 200, 197);
        x.extra(0);
        repeats(x, -1, -1);
        x.play(1);
        repeats(x, 200, 197);
    }

    @Sentence("Promise 27: NONE if there is none such, or the fight is over before")
    static void nothingComesAgain(TurnWheel x) {
        repeats(x, -1, -1);
        repeats(of(SOLE), -1, -1);
        repeats(of(longFight(101)), -1, -1);
        text(x, DUEL);
        repeats(x, -1, -1);
        x.play(4);
        repeats(x, -1, -1);
    }

    @Sentence("Promise 28: Returns by how many turns these two are apart (the latest such fewer turns); NONE likewise.")
    static void howFarApartTheyAre(TurnWheel x) {
        due(x.cycle(), -1);
        due(of(ROUND).cycle(), 4);
        text(x, "wheel 100;fighter a left speed 50 life 9 plan guard 1;"
                + "fighter b right speed 50 life 9 plan guard 1 guard 2 guard 3 guard 4 guard 5 guard 6;");
        due(x.cycle(), 12);
        due(x.repeatIn(), 14);
        x.setAct(0, 0, 6, 1);
        due(x.cycle(), -1);
        x.play(2);
        x.undo();
        x.undo();
        due(x.cycle(), 12);
    }

    // ---- 29

    @Sentence("Promise 29: Returns the least speed, 1 to 99, with which, if it was set now, the side of a fighter")
    static void theLeastSpeedToWin(TurnWheel x) {
        text(x, DUEL);
        // 3 turns up to time 20, and 5 before the turn at time 6
        due(x.leastSpeed(0), 15);
        due(x.leastSpeed(1), 84);
        row(what -> x.fighter(1, what), 1, 25);
        x.setSpeed(1, 50);
        due(x.leastSpeed(1), 84);
        due(x.leastSpeed(0), 30);
    }

    @Sentence("Promise 29: Returns the least speed, 1 to 99")
    static void aLeastSpeedOf1And99(TurnWheel x) {
        due(of(longFight(1)).leastSpeed(1), 1);
        text(x, "wheel 198;fighter b right speed 1 life 9 plan hit 9;fighter a left speed 99 life 9 plan hit 9;");
        x.lift(0, 196);
        due(x.leastSpeed(1), -1);
        x.lift(1, 1);
        due(x.leastSpeed(1), 99);
        x.lift(1, 2);
        due(x.leastSpeed(1), 98);
        x.push(1, 3);
        due(x.leastSpeed(1), -1);
    }

    @Sentence("Promise 29: would win within 200 turns that come")
    static void aWinWithin200Turns(TurnWheel x) {
        text(x, longFight(100));
        // with speed 50 turn 200 is the last one, with 49 turn 202
        due(x.leastSpeed(1), 50);
        x.extra(0);
        due(x.leastSpeed(1), 51);
        due(of(longFight(999)).leastSpeed(1), -1);
    }

    @Sentence("Promise 29: or has won; NONE if there is none such")
    static void theLeastSpeedWhenItIsOver(TurnWheel x) {
        over(x);
        due(x.leastSpeed(0), 1);
        due(x.leastSpeed(1), -1);
        due(of(SOLE).leastSpeed(0), 1);
        due(of(ROUND).leastSpeed(0), -1);
    }

    @Sentence("Promise 29: (whether this one lives or not)")
    static void theLeastSpeedOfOneWhoDoesNotLive(TurnWheel x) {
        text(x, DUEL + "fighter c right speed 1 life 1 plan hit 1;");
        x.play(2);
        due(x.fighter(2, 2), 0);
        due(x.leastSpeed(2), -1);
        x.setSpeed(1, 99);
        x.heal(1, 100);
        due(x.leastSpeed(2), 1);
    }

    // ---- 30

    /** Fighter a makes so many turns at once; then it is c's turn. What the push of c changes is seen behind that. */
    private static TurnWheel pushAfter(int turns, boolean isMirrored) {
        String text = "wheel 100;fighter a left speed 1 life 900 plan speed 1;"
                + "fighter b right speed 1 life 900 plan speed 1;fighter c right speed 1 life 900 plan hit 50;";
        TurnWheel x = of(isMirrored ? mirrored(text) : text);
        script(x, lifts("a", 100 * turns) + lifts("c", 100));
        due(x.turn(turns - 1), 0);
        due(x.turn(turns), 2);
        return x;
    }

    @Sentence("Promise 30: so that a side has the most life in all behind 20 turns that come")
    static void whomToPush20TurnsAhead(TurnWheel x) {
        due(pushAfter(18, false).bestPush(0, 100), 2);
        due(pushAfter(19, false).bestPush(0, 100), 2);
        due(pushAfter(20, false).bestPush(0, 100), 1);
        due(pushAfter(19, true).bestPush(1, 100), 2);
        due(pushAfter(20, true).bestPush(1, 100), 1);
    }

    @Sentence("Promise 30: whose gauge would have to be less by so much now (not below 0)")
    static void aPushNotBelow0(TurnWheel x) {
        // b is there in 5 ticks even if it is at 0, before c in 7: so nobody's push is any good
        text(x, "wheel 100;fighter a left speed 1 life 900 plan speed 1;"
                + "fighter c right speed 15 life 900 plan speed 15;"
                + "fighter b right speed 20 life 900 plan hit 50;");
        script(x, lifts("a", 1900) + "lift b 10;");
        due(x.bestPush(0, 100), 1);
        x.lift(2, 10);
        x.push(1, 15);
        x.lift(1, 40);
        // both would be there in 4 ticks, c with the lower number; b comes first only if c is pushed
        due(x.bestPush(0, 10), 2);
    }

    @Sentence("Promise 30: whose gauge would have to be less by so much now")
    static void aPushOfJustEnough(TurnWheel x) {
        text(x, "wheel 100;fighter a left speed 1 life 900 plan guard 1;fighter b right speed 1 life 900 plan hit 5;"
                + "fighter c right speed 1 life 900 plan hit 50;");
        script(x, lifts("a", 1800) + "lift b 300;lift c 300;");
        // turn 20 is the second one of b, or of c if b has less
        due(x.bestPush(0, 1), 2);
        due(x.bestPush(0, 999), 2);
        due(x.bestPush(1, 1), 0);
        due(x.bestPush(1, 999), 0);
        row(f -> x.fighter(f, 4), 1800, 300, 300);
    }

    @Sentence("Promise 30: the lowest number of several")
    static void severalToPush(TurnWheel x) {
        text(x, "wheel 100;fighter b right speed 1 life 9 plan rest 1;fighter a left speed 9 life 9 plan rest 1;"
                + "fighter c right speed 1 life 9 plan rest 1;");
        due(x.bestPush(0, 1), 0);
        due(x.bestPush(1, 1), 1);
    }

    @Sentence("Promise 30: so that a side has the most life in all")
    static void theLifeOfTheSideItselfCounts(TurnWheel x) {
        // without b's turn side 1 would have less life, without c's turn side 0 has more
        text(x, "wheel 100;fighter a left speed 1 life 100 plan speed 1;fighter b right speed 1 life 100 plan rest 99;"
                + "fighter c right speed 1 life 100 plan hit 5;");
        script(x, lifts("a", 1800) + "lift b 100;lift c 100;");
        due(x.bestPush(0, 100), 2);
    }

    @Sentence("Promise 30: so that a side has the most life in all")
    static void theLifeOfAllOfTheSideCounts(TurnWheel x) {
        // b takes 30 of d, and c the 20 that are left; c alone takes 40
        text(x, "wheel 100;fighter a left speed 99 life 100 plan speed 99;fighter b right speed 1 life 100 plan hit 30;"
                + "fighter c right speed 1 life 100 plan hit 40;fighter d left speed 1 life 50 plan rest 1;");
        script(x, lifts("a", 1800) + "lift b 101;lift c 100;");
        due(x.bestPush(0, 100), 2);
        x.setAct(2, 0, 0, 10);
        due(x.bestPush(0, 100), 1);
    }

    @Sentence("Promise 30: Returns the fighter of the other side, who lives")
    static void oneWhoFellIsNotToBePushed(TurnWheel x) {
        text(x, "wheel 100;fighter b right speed 1 life 1 plan rest 1;fighter a left speed 50 life 9 plan hit 1;"
                + "fighter c right speed 1 life 90 plan rest 1;");
        due(x.bestPush(0, 1), 0);
        x.play(1);
        due(x.fighter(0, 2), 0);
        due(x.bestPush(0, 1), 2);
        text(x, DUEL);
        x.play(4);
        due(x.bestPush(1, 1), 0);
    }

    @Sentence("Promise 30: NONE without such fighters")
    static void nobodyToPush(TurnWheel x) {
        due(x.bestPush(0, 1), -1);
        due(x.bestPush(1, 999), -1);
        text(x, SOLE);
        due(x.bestPush(1, 1), -1);
        due(x.bestPush(0, 1), 0);
        over(x);
        due(x.bestPush(0, 1), -1);
    }

    @Sentence("Promise 30: @throws IllegalArgumentException if side is not 0 or 1, or by is not 1 to 999.")
    static void pushesOutOfRange(TurnWheel x) {
        for (int n = 0; n < 2; n++) {
            for (int by : new int[] {0, -1, 1000, LEAST, GREATEST}) {
                argument(() -> x.bestPush(0, by));
                argument(() -> x.bestPush(1, by));
                argument(() -> x.bestPush(2, by));
            }
            outOfRange(side -> x.bestPush(side, 1), -1, 2, LEAST, GREATEST);
            outOfRange(side -> x.bestPush(side, 999), -1, 2, LEAST, GREATEST);
            text(x, DUEL);
        }
        due(x.bestPush(0, 1), 1);
        due(x.bestPush(0, 999), 1);
    }

    // ---- 31

    /** Fighter e makes so many turns at once; then it is c's turn, or a's, who rests, if it has the gauge of c. */
    private static TurnWheel swapAfter(int turns, boolean isMirrored) {
        String text = "wheel 100;fighter a left speed 1 life 1 plan rest 5;fighter b left speed 1 life 1 plan speed 1;"
                + "fighter c left speed 1 life 1 plan speed 1;fighter e right speed 1 life 1 plan speed 1;";
        TurnWheel x = of(isMirrored ? mirrored(text) : text);
        script(x, lifts("e", 100 * turns + 99) + "lift c 100;");
        due(x.turn(turns - 1), 3);
        due(x.turn(turns), 2);
        return x;
    }

    @Sentence("Promise 31: so that their side has the most life in all behind 20 turns that come")
    static void withWhomToSwap20TurnsAhead(TurnWheel x) {
        due(swapAfter(18, false).bestSwap(0), 2);
        due(swapAfter(19, false).bestSwap(0), 2);
        due(swapAfter(20, false).bestSwap(0), -1);
        due(swapAfter(19, false).bestSwap(2), 0);
        due(swapAfter(19, false).bestSwap(1), -1);
        due(swapAfter(19, false).bestSwap(3), -1);
        due(swapAfter(19, true).bestSwap(0), 2);
        due(swapAfter(20, true).bestSwap(0), -1);
    }

    @Sentence("Promise 31: would have to exchange gauges now")
    static void anExchangeGivesAndTakes(TurnWheel x) {
        text(x, "wheel 100;fighter a left speed 1 life 9 plan rest 5;fighter b left speed 1 life 9 plan rest 5;"
                + "fighter e right speed 1 life 9 plan speed 1;");
        script(x, lifts("e", 1899) + "lift b 100;");
        due(x.bestSwap(0), -1);
        due(x.bestSwap(1), -1);
        x.setAct(0, 0, 6, 6);
        due(x.bestSwap(0), 1);
        due(x.bestSwap(1), 0);
        row(f -> x.fighter(f, 4), 0, 100, 1899);
    }

    @Sentence("Promise 31: so that their side has the most life in all")
    static void theMostLifeOfSeveralSwaps(TurnWheel x) {
        // a's rest comes in place of the other's
        text(x, "wheel 100;fighter a left speed 1 life 9 plan rest 9;fighter b left speed 1 life 9 plan rest 3;"
                + "fighter d left speed 1 life 9 plan rest 2;fighter e left speed 1 life 9 plan rest 8;"
                + "fighter f right speed 1 life 9 plan speed 1;");
        script(x, lifts("f", 1799) + "lift b 100;lift d 100;lift e 100;");
        due(x.bestSwap(0), 2);
        x.setAct(1, 0, 6, 1);
        due(x.bestSwap(0), 1);
    }

    @Sentence("Promise 31: the lowest number of several")
    static void severalToSwapWith(TurnWheel x) {
        text(x, "wheel 100;fighter d left speed 1 life 9 plan speed 1;fighter b left speed 1 life 9 plan rest 1;"
                + "fighter a left speed 1 life 9 plan rest 5;fighter c left speed 1 life 9 plan rest 1;"
                + "fighter e right speed 1 life 9 plan speed 1;");
        script(x, lifts("e", 1899) + "lift b 100;lift c 100;");
        due(x.bestSwap(2), 1);
        due(x.bestSwap(0), -1);
    }

    @Sentence("Promise 31: NONE without such a one, or if none of these makes it more than it is without")
    static void noSwapIsBetter(TurnWheel x) {
        text(x, "wheel 100;fighter a left speed 1 life 9 plan hit 50;fighter b left speed 1 life 9 plan speed 1;"
                + "fighter e right speed 1 life 99 plan rest 1;fighter f right speed 1 life 9 plan rest 1;");
        x.lift(1, 100);
        // a's hit would leave less life to the others, but no more to its side
        due(x.bestSwap(0), -1);
        due(x.bestSwap(2), -1);
        text(x, DUEL);
        due(x.bestSwap(0), -1);
        due(x.bestSwap(1), -1);
        x.play(4);
        due(x.bestSwap(0), -1);
    }

    @Sentence("Promise 31: Returns the other fighter of its side, who lives, with whom a fighter who lives")
    static void noSwapWithOneWhoFell(TurnWheel x) {
        // b's guard would hold off c's hit if b came later; the one who fell has the gauge for it
        text(x, "wheel 100;fighter a left speed 1 life 1 plan rest 1;"
                + "fighter b left speed 10 life 500 luck 1 plan guard 50 lift 1;"
                + "fighter c right speed 10 life 500 plan hit 40 hit 40 rest 1 rest 1 rest 1 rest 1;");
        due(script(x, "lift c 100;turn 1;lift b 100;turn 1;lift b 100;lift c 100;"), 6);
        due(x.fighter(0, 2), 0);
        due(x.fighter(1, 5), 50);
        due(x.lifeIn(1, 20), 420);
        due(x.bestSwap(1), -1);
        due(x.bestSwap(0), -1);
        x.push(1, 100);
        due(x.lifeIn(1, 20), 460);
    }

    // ---- 32

    /** Fighter e makes so many turns at once; then it is a's turn, who rests if it is at place 1. */
    private static TurnWheel placeAfter(int turns, boolean isMirrored) {
        String text = "wheel 100;fighter a left speed 1 life 1 plan speed 1 rest 5;"
                + "fighter e right speed 1 life 1 plan speed 1;";
        TurnWheel x = of(isMirrored ? mirrored(text) : text);
        script(x, lifts("e", 100 * turns + 99) + "lift a 100;");
        due(x.turn(turns - 1), 1);
        due(x.turn(turns), 0);
        return x;
    }

    @Sentence("Promise 32: its side would have the most life in all behind 20 turns that come")
    static void whereToStart20TurnsAhead(TurnWheel x) {
        due(placeAfter(18, false).bestPlace(0), 1);
        due(placeAfter(19, false).bestPlace(0), 1);
        due(placeAfter(20, false).bestPlace(0), 0);
        due(placeAfter(19, false).bestPlace(1), 0);
        due(placeAfter(19, true).bestPlace(0), 1);
        due(placeAfter(20, true).bestPlace(0), 0);
    }

    @Sentence("Promise 32: Returns the act i of the plan of a fighter")
    static void theBestPlaceOfSix(TurnWheel x) {
        text(x, "wheel 100;fighter a left speed 1 life 9 plan rest 1 rest 2 rest 3 rest 4 rest 5 rest 6;"
                + "fighter e right speed 1 life 9 plan speed 1;");
        script(x, lifts("e", 1999) + "lift a 100;");
        due(x.bestPlace(0), 5);
        x.setAct(0, 3, 6, 9);
        due(x.bestPlace(0), 3);
        x.extra(0);
        x.play(1);
        due(x.fighter(0, 7), 1);
        due(x.bestPlace(0), 3);
        due(x.fighter(0, 7), 1);
    }

    @Sentence("Promise 32: Returns the act i of the plan of a fighter")
    static void theBestPlaceOfAPlanThatHarms(TurnWheel x) {
        // a turn that does nothing would be better, but no act does nothing
        text(x, "wheel 100;fighter a left speed 99 life 900 plan speed 1;"
                + "fighter b right speed 10 life 900 plan hit 5;");
        due(x.bestPlace(0), 0);
    }

    @Sentence("Promise 32: its side would have the most life in all")
    static void theLifeOfTheOtherSideDoesNotCount(TurnWheel x) {
        text(x, "wheel 100;fighter a left speed 1 life 9 plan hit 50 rest 1 hit 60;"
                + "fighter e right speed 1 life 900 plan speed 1;");
        script(x, lifts("e", 1999) + "lift a 100;");
        due(x.bestPlace(0), 1);
    }

    @Sentence("Promise 32: the lowest one of several")
    static void severalPlaces(TurnWheel x) {
        text(x, "wheel 100;fighter a left speed 1 life 99 plan speed 1 rest 5 speed 1 rest 5;"
                + "fighter e right speed 1 life 900 plan speed 1 hit 1;");
        script(x, lifts("e", 1899) + "lift a 100;");
        due(x.bestPlace(0), 1);
        due(x.bestPlace(1), 0);
        extras(x, 0, 3);
        x.play(3);
        due(x.fighter(0, 7), 3);
        due(x.bestPlace(0), 1);
        x.setAct(0, 0, 6, 5);
        due(x.bestPlace(0), 0);
    }

    @Sentence("Promise 32: (whether it lives or not)")
    static void theBestPlaceOfOneWhoDoesNotLive(TurnWheel x) {
        text(x, "wheel 100;fighter a left speed 1 life 1 plan speed 1 rest 9;"
                + "fighter b right speed 50 life 9 plan hit 1;"
                + "fighter c left speed 1 life 999 plan speed 1;");
        due(x.bestPlace(0), 0);
        x.play(1);
        due(x.fighter(0, 2), 0);
        due(x.bestPlace(0), 0);
        over(x);
        due(x.bestPlace(0), 0);
        due(x.bestPlace(1), 0);
    }
}
