import java.util.function.IntConsumer;

/** Promises 33 to 40: changes. */
public final class Promises33To40Test extends Run {
    private static final String ROUND = "wheel 100;fighter a left speed 50 life 9 plan guard 5;"
            + "fighter b right speed 50 life 9 plan guard 5;";
    private static final int[] MOST = {99, 999, 999, 99, 3, 99, 99};

    public static void main(String[] args) throws IllegalAccessException {
        Sentences.test(Promises33To40Test.class);
    }

    /** Fighter b has fallen, and the fight is over; 1 change can be undone. */
    private static void over(TurnWheel x) {
        text(x, DUEL);
        x.play(4);
    }

    private static void outOfRange(IntConsumer call, int... numbers) {
        for (int n : numbers) {
            argument(() -> call.accept(n));
        }
    }

    /** Fighter b of DUEL behind two turns and an extra one, with a gauge of 150. */
    private static void inTheMiddle(TurnWheel x) {
        text(x, DUEL);
        x.extra(1);
        x.play(3);
        x.lift(1, 50);
        row(what -> x.fighter(1, what), 1, 25, 2, 0, 150, 0, 0, 0, 1, 1, 1, 4);
        row(what -> x.fighter(0, what), 0, 50, 16, 0, 0, 0, 0, 0, 1, 2, 0, 10);
    }

    @Sentence("Behind the terms: Ahead of the calls `play`, `push`, `lift`, `extra`, `setSpeed`, `heal`, `setWheel`,"
            + " `setAct` the interface says: ---- changes.")
    static void aChangeChangesOneNumberAlone(TurnWheel x) {
        inTheMiddle(x);
        x.push(1, 20);
        row(what -> x.fighter(1, what), 1, 25, 2, 0, 130, 0, 0, 0, 1, 1, 1, 4);
        x.lift(1, 7);
        row(what -> x.fighter(1, what), 1, 25, 2, 0, 137, 0, 0, 0, 1, 1, 1, 4);
        x.extra(1);
        row(what -> x.fighter(1, what), 1, 25, 2, 0, 137, 0, 1, 0, 1, 1, 1, 4);
        x.setSpeed(1, 77);
        row(what -> x.fighter(1, what), 1, 77, 2, 0, 137, 0, 1, 0, 1, 1, 1, 4);
        x.heal(1, 9);
        row(what -> x.fighter(1, what), 1, 77, 11, 0, 137, 0, 1, 0, 1, 1, 1, 4);
        x.setWheel(500);
        row(what -> x.fighter(1, what), 1, 77, 11, 0, 137, 0, 1, 0, 1, 1, 1, 4);
        x.setAct(1, 0, 3, 9);
        row(what -> x.fighter(1, what), 1, 77, 11, 0, 137, 0, 1, 0, 1, 1, 1, 4);
        row(what -> x.fighter(0, what), 0, 50, 16, 0, 0, 0, 0, 0, 1, 2, 0, 10);
        row(x::setting, 2, 500, 4, 3, 2, 16, 11, -1, 0, 6);
        x.setWheel(100);
        row(what -> x.fighter(1, what), 1, 77, 11, 0, 137, 0, 1, 0, 1, 1, 1, 4);
    }

    // ---- 33

    @Sentence("Promise 33: Makes turns, until so many were made or the fight is over.")
    static void turnsAreMade(TurnWheel x) {
        text(x, DUEL);
        due(x.play(1), 1);
        due(x.setting(2), 2);
        due(x.setting(3), 1);
        due(x.fighter(1, 2), 7);
        due(x.fighter(1, 4), 50);
        due(x.play(2), 2);
        due(x.setting(2), 4);
        due(x.fighter(0, 2), 16);
        text(x, ROUND);
        due(x.play(99), 99);
        due(x.setting(3), 99);
        due(x.setting(2), 100);
    }

    @Sentence("Promise 33: @return how many were made")
    static void theFightEndsBeforeSoManyTurns(TurnWheel x) {
        text(x, DUEL);
        due(x.play(99), 4);
        due(x.setting(2), 6);
        due(x.setting(3), 4);
        x.undo();
        due(x.play(4), 4);
        x.undo();
        due(x.play(5), 4);
    }

    @Sentence("Promise 33: @param turns 1 to 99.")
    static void turnsOutOfRange(TurnWheel x) {
        text(x, DUEL);
        outOfRange(x::play, 0, -1, 100, 1000, LEAST, GREATEST);
        due(x.setting(3), 0);
        due(x.play(1), 1);
        x.play(3);
        outOfRange(x::play, 0, 100);
    }

    @Sentence("Promise 33: @throws IllegalStateException if the fight is over")
    static void noTurnWhenItIsOver(TurnWheel x) {
        state(() -> x.play(1));
        state(() -> x.play(99));
        over(x);
        state(() -> x.play(1));
        x.heal(1, 1);
        due(x.play(1), 1);
        text(x, "fighter a left speed 1 life 1 plan hit 1;");
        state(() -> x.play(1));
    }

    @Sentence("Promise 33: or more than 9999 turns would be made in all (by so many, whether the fight is over"
            + " before or not)")
    static void theBoundOfTurns(TurnWheel x) {
        text(x, ROUND);
        for (int n = 0; n < 100; n++) {
            x.play(99);
        }
        due(x.setting(3), 9900);
        due(x.play(90), 90);
        x.setAct(0, 0, 0, 99);
        due(x.endsIn(), 1);
        state(() -> x.play(10));
        state(() -> x.play(99));
        due(x.setting(3), 9990);
        due(x.play(9), 1);
        x.undo();
        x.undo();
        due(x.play(9), 9);
        due(x.setting(3), 9999);
        due(x.setting(2), 10000);
        state(() -> x.play(1));
        argument(() -> x.play(0));
        x.undo();
        due(x.play(8), 8);
        due(x.play(1), 1);
        state(() -> x.play(1));
    }

    // ---- 34 and 35

    @Sentence("Promise 34: Makes the gauge of a fighter less, but not below 0.")
    static void aPush(TurnWheel x) {
        text(x, DUEL);
        due(x.push(1, 1), 0);
        x.lift(1, 500);
        due(x.push(1, 120), 380);
        due(x.fighter(1, 4), 380);
        due(x.push(1, 379), 1);
        due(x.push(1, 1), 0);
        x.lift(1, 5);
        due(x.push(1, 6), 0);
        x.lift(1, 999);
        due(x.push(1, 999), 0);
        due(x.push(1, 999), 0);
        due(x.fighter(1, 4), 0);
        due(x.fighter(0, 4), 0);
    }

    @Sentence("Promise 34: @throws IllegalArgumentException if by is out of range.")
    static void pushesOutOfRange(TurnWheel x) {
        text(x, DUEL);
        x.lift(0, 500);
        outOfRange(by -> x.push(0, by), 0, -1, 1000, LEAST, GREATEST);
        due(x.fighter(0, 4), 500);
        due(x.push(0, 1), 499);
        index(() -> x.push(2, 1000));
    }

    @Sentence("Promise 34: @throws IllegalStateException if the fighter does not live")
    static void aPushOfOneWhoDoesNotLive(TurnWheel x) {
        over(x);
        state(() -> x.push(1, 1));
        argument(() -> x.push(1, 0));
        x.lift(0, 9);
        due(x.push(0, 2), 7);
        x.heal(1, 1);
        due(x.push(1, 1), 0);
    }

    @Sentence("Promise 35: Makes the gauge of a fighter more, but at most 9999.")
    static void aLift(TurnWheel x) {
        text(x, DUEL);
        due(x.lift(1, 1), 1);
        due(x.lift(1, 999), 1000);
        due(x.fighter(1, 4), 1000);
        due(x.fighter(0, 4), 0);
        lift(x, 1, 7993);
        due(x.lift(1, 999), 9992);
        due(x.lift(1, 6), 9998);
        due(x.lift(1, 1), 9999);
        due(x.lift(1, 1), 9999);
        x.push(1, 5);
        due(x.lift(1, 6), 9999);
        due(x.lift(1, 999), 9999);
        due(x.fighter(1, 4), 9999);
    }

    @Sentence("Promise 35: @throws IllegalArgumentException if by is out of range.")
    static void liftsOutOfRange(TurnWheel x) {
        text(x, DUEL);
        outOfRange(by -> x.lift(0, by), 0, -1, 1000, LEAST, GREATEST);
        due(x.fighter(0, 4), 0);
        index(() -> x.lift(2, 0));
    }

    @Sentence("Promise 35: @throws IllegalStateException if the fighter does not live")
    static void aLiftOfOneWhoDoesNotLive(TurnWheel x) {
        over(x);
        state(() -> x.lift(1, 1));
        argument(() -> x.lift(1, 1000));
        due(x.fighter(1, 4), 0);
        due(x.lift(0, 2), 2);
        x.heal(1, 1);
        due(x.lift(1, 3), 3);
    }

    // ---- 36

    @Sentence("Promise 36: @return true; false, and nothing changes, if it has 3 already.")
    static void extraTurns(TurnWheel x) {
        text(x, DUEL);
        for (int n = 1; n <= 3; n++) {
            due(x.extra(1), true);
            due(x.fighter(1, 6), n);
        }
        String before = all(x);
        due(x.extra(1), false);
        due(all(x), before);
        due(x.extra(0), true);
        due(x.fighter(0, 6), 1);
        x.play(2);
        due(x.extra(1), true);
        due(x.extra(1), false);
    }

    @Sentence("Promise 36: @throws IllegalStateException if the fighter does not live")
    static void anExtraTurnForOneWhoDoesNotLive(TurnWheel x) {
        over(x);
        state(() -> x.extra(1));
        due(x.fighter(1, 6), 0);
        due(x.extra(0), true);
        x.heal(1, 1);
        due(x.extra(1), true);
        index(() -> x.extra(2));
    }

    // ---- 37 and 38

    @Sentence("Promise 37: Sets the speed of a fighter (1 to 99), whether it lives or not. @return the one before.")
    static void aSpeedIsSet(TurnWheel x) {
        text(x, DUEL);
        due(x.setSpeed(0, 1), 50);
        due(x.fighter(0, 1), 1);
        due(x.setSpeed(0, 99), 1);
        due(x.setSpeed(0, 99), 99);
        due(x.fighter(0, 1), 99);
        due(x.fighter(1, 1), 25);
        over(x);
        due(x.setSpeed(1, 3), 25);
        due(x.fighter(1, 1), 3);
    }

    @Sentence("Promise 37: @throws IllegalArgumentException if speed is out of range")
    static void speedsOutOfRange(TurnWheel x) {
        over(x);
        outOfRange(speed -> x.setSpeed(0, speed), 0, -1, 100, LEAST, GREATEST);
        outOfRange(speed -> x.setSpeed(1, speed), 0, -1, 100, LEAST, GREATEST);
        due(x.fighter(0, 1), 50);
        index(() -> x.setSpeed(2, 0));
    }

    @Sentence("Promise 38: Makes the life of a fighter more, but at most 999")
    static void aLifeIsHealed(TurnWheel x) {
        text(x, DUEL);
        due(x.heal(0, 1), 21);
        due(x.heal(0, 977), 998);
        due(x.heal(0, 1), 999);
        due(x.heal(0, 1), 999);
        due(x.fighter(0, 2), 999);
        due(x.heal(1, 999), 999);
    }

    @Sentence("Promise 38: one who does not live may come back by it")
    static void oneComesBack(TurnWheel x) {
        over(x);
        due(x.heal(1, 1), 1);
        due(x.setting(8), 0);
        due(x.setting(4), 2);
        row(what -> x.fighter(1, what), 1, 25, 1, 0, 0, 0, 0, 0, 1, 1, 0, 4);
        due(x.play(1), 1);
        due(x.fighter(1, 2), 0);
        due(x.heal(1, 999), 999);
        text(x, "wheel 100;fighter a left speed 50 life 9 plan hit 10;"
                + "fighter b right speed 40 life 9 luck 3 plan rest 1 rest 2;");
        x.extra(1);
        x.play(2);
        due(x.fighter(1, 2), 0);
        due(x.heal(1, 7), 7);
        row(what -> x.fighter(1, what), 1, 40, 7, 3, 0, 0, 0, 1, 2, 1, 1, 0);
    }

    @Sentence("Promise 38: @throws IllegalArgumentException if by is out of range")
    static void healsOutOfRange(TurnWheel x) {
        over(x);
        outOfRange(by -> x.heal(0, by), 0, -1, 1000, LEAST, GREATEST);
        outOfRange(by -> x.heal(1, by), 0, -1, 1000, LEAST, GREATEST);
        due(x.fighter(0, 2), 16);
        due(x.fighter(1, 2), 0);
        index(() -> x.heal(-1, 0));
    }

    // ---- 39

    @Sentence("Promise 39: Sets the wheel (100 to 999). @return the one before.")
    static void aWheelIsSet(TurnWheel x) {
        due(x.setWheel(999), 300);
        due(x.setWheel(100), 999);
        due(x.setWheel(100), 100);
        text(x, DUEL);
        due(x.setWheel(200), 100);
        due(x.setting(1), 200);
        due(x.turnTime(0), 4);
        x.lift(0, 150);
        x.setWheel(150);
        x.play(1);
        due(x.setting(2), 0);
        due(x.fighter(0, 4), 0);
    }

    @Sentence("Promise 39: @throws IllegalArgumentException if wheel is out of range")
    static void wheelsOutOfRange(TurnWheel x) {
        outOfRange(x::setWheel, 99, 0, -1, 1000, LEAST, GREATEST);
        due(x.setting(1), 300);
        text(x, DUEL);
        outOfRange(x::setWheel, 99, 1000);
        due(x.setting(1), 100);
    }

    // ---- 40

    @Sentence("Promise 40: Sets act i of a fighter's plan. @return the kind of the one before.")
    static void anActIsSet(TurnWheel x) {
        text(x, "fighter a left speed 50 life 20 plan hit 5 again 3 rest 1 rest 2 rest 3 speed 4;"
                + "fighter b right speed 25 life 12 plan hit 4;");
        due(x.setAct(0, 1, 2, 999), 4);
        row(i -> x.actKind(0, i), 0, 2, 6, 6, 6, 5, -1);
        row(i -> x.actNumber(0, i), 5, 999, 1, 2, 3, 4, -1);
        due(x.setAct(0, 0, 3, 1), 0);
        due(x.setAct(0, 5, 0, 9), 5);
        due(x.setAct(1, 0, 6, 7), 0);
        row(i -> x.actKind(0, i), 3, 2, 6, 6, 6, 0, -1);
        row(i -> x.actNumber(0, i), 1, 999, 1, 2, 3, 9, -1);
        due(x.actKind(1, 0), 6);
        due(x.actNumber(1, 0), 7);
        due(x.fighter(0, 8), 6);
        x.play(2);
        due(x.setAct(0, 0, 5, 50), 3);
        due(x.fighter(0, 7), 2);
        over(x);
        due(x.setAct(1, 0, 6, 9), 0);
    }

    @Sentence("Promise 40: @throws IllegalArgumentException if there is no act i")
    static void noSuchAct(TurnWheel x) {
        text(x, "fighter a left speed 50 life 20 plan hit 5 again 3;fighter b right speed 25 life 12 plan hit 4;"
                + "fighter c right speed 25 life 12 plan rest 1 rest 2 rest 3 rest 4 rest 5 rest 6;");
        outOfRange(i -> x.setAct(0, i, 0, 1), -1, 2, 5, 6, LEAST, GREATEST);
        outOfRange(i -> x.setAct(1, i, 0, 1), -1, 1, 2, 6, LEAST, GREATEST);
        outOfRange(i -> x.setAct(2, i, 0, 1), -1, 6, 7, LEAST, GREATEST);
        due(x.setting(9), 0);
        index(() -> x.setAct(3, 9, 0, 1));
    }

    @Sentence("Promise 40: kind is not 0 to 6")
    static void noSuchKind(TurnWheel x) {
        text(x, DUEL);
        outOfRange(kind -> x.setAct(0, 0, kind, 1), -1, 7, 8, LEAST, GREATEST);
        due(x.actKind(0, 0), 0);
        for (int kind = 0; kind <= 6; kind++) {
            due(x.setAct(1, 0, kind, 1), Math.max(kind - 1, 0));
            due(x.actKind(1, 0), kind);
        }
    }

    @Sentence("Promise 40: or number is not as the kind lets")
    static void numbersThatAKindDoesNotLet(TurnWheel x) {
        text(x, DUEL);
        for (int kind = 0; kind <= 6; kind++) {
            int k = kind;
            x.setAct(0, 0, kind, 1);
            due(x.setAct(0, 0, kind, MOST[kind]), kind);
            outOfRange(n -> x.setAct(0, 0, k, n), 0, -1, MOST[kind] + 1, 1000, LEAST, GREATEST);
            due(x.actNumber(0, 0), MOST[kind]);
        }
    }
}
