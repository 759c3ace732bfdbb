/** Promises 8 to 16: what is there. */
public final class Promises08To16Test extends Run {
    private static final String FIVE = "wheel 100;fighter ann left speed 10 life 30 luck 2 plan hit 12 guard 5;"
            + "fighter bob right speed 20 life 40 luck 3 plan push 7;fighter c right speed 25 life 20 plan rest 9;"
            + "fighter dora left speed 20 life 7 luck 4 plan again 1;"
            + "fighter abcdefgh left speed 20 life 5 luck 4 plan lift 1 hit 2 push 3 lift 4 guard 5 again 3;";
    private static final String SOLE = " speed 1 life 1 plan hit 1;";

    public static void main(String[] args) throws IllegalAccessException {
        Sentences.test(Promises08To16Test.class);
    }

    /** Fighter b has fallen, and the fight is over. */
    private static void over(TurnWheel x) {
        text(x, DUEL);
        x.play(4);
    }

    // ---- 8

    @Sentence("Promise 8: 0 fighters, 1 the wheel, 2 the time, 3 turns that were made, 4 fighters who live, 5 and 6 the"
            + " life of the sides 0 and 1 in all")
    static void settings(TurnWheel x) {
        text(x, FIVE);
        row(x::setting, 5, 100, 0, 0, 5, 42, 60, -1, 0, 0);
        text(x, DUEL);
        x.play(3);
        row(x::setting, 2, 100, 4, 3, 2, 16, 2, -1, 0, 1);
        x.play(9);
        row(x::setting, 2, 100, 6, 4, 1, 16, 0, 0, 1, 2);
    }

    @Sentence("Promise 8: 7 the side that has won (NONE if the fight is not over, or nobody lives)")
    static void theSideThatHasWon(TurnWheel x) {
        due(x.setting(7), -1);
        due(of("fighter a left" + SOLE).setting(7), 0);
        due(of("fighter a right" + SOLE).setting(7), 1);
        text(x, DUEL);
        due(x.setting(7), -1);
        x.play(3);
        due(x.setting(7), -1);
        x.play(1);
        due(x.setting(7), 0);
        x.heal(1, 1);
        due(x.setting(7), -1);
        text(x, mirrored(DUEL));
        x.play(4);
        due(x.setting(7), 1);
    }

    @Sentence("Promise 8: 8 1 if the fight is over, otherwise 0")
    static void whetherItIsOver(TurnWheel x) {
        due(x.setting(8), 1);
        text(x, DUEL);
        due(x.setting(8), 0);
        x.play(3);
        due(x.setting(8), 0);
        x.play(1);
        due(x.setting(8), 1);
        x.undo();
        due(x.setting(8), 0);
    }

    @Sentence("Promise 8: 9 changes that can be undone")
    static void changesThatCanBeUndone(TurnWheel x) {
        text(x, DUEL);
        for (int n = 1; n <= 8; n++) {
            x.lift(0, 1);
            due(x.setting(9), Math.min(n, 6));
        }
        x.undo();
        due(x.setting(9), 5);
    }

    @Sentence("Promise 8: if what is out of range")
    static void noSuchSetting(TurnWheel x) {
        for (int what : new int[] {-1, 10, 11, LEAST, GREATEST}) {
            argument(() -> x.setting(what));
        }
    }

    // ---- 9

    @Sentence("Promise 9: 0 the side, 1 the speed, 2 the life, 3 the luck, 4 the gauge, 5 the guard, 6 the extra"
            + " turns, 7 the place in the plan, 8 how many acts the plan has")
    static void numbersOfFighters(TurnWheel x) {
        text(x, FIVE);
        row(what -> x.fighter(0, what), 0, 10, 30, 2, 0, 0, 0, 0, 2, 0, 0, 0);
        row(what -> x.fighter(1, what), 1, 20, 40, 3, 0, 0, 0, 0, 1, 0, 0, 0);
        row(what -> x.fighter(4, what), 0, 20, 5, 4, 0, 0, 0, 0, 6, 0, 0, 0);
        text(x, "wheel 100;fighter a left speed 20 life 9 plan guard 8 again 2;"
                + "fighter b right speed 10 life 9 luck 9 plan hit 8;");
        x.play(1);
        row(what -> x.fighter(0, what), 0, 20, 9, 0, 0, 8, 0, 1, 2, 1, 0, 0);
        row(what -> x.fighter(1, what), 1, 10, 9, 9, 50, 0, 0, 0, 1, 0, 0, 0);
        x.play(2);
        row(what -> x.fighter(0, what), 0, 20, 9, 0, 0, 0, 2, 0, 2, 2, 0, 0);
        row(what -> x.fighter(1, what), 1, 10, 9, 9, 0, 0, 0, 0, 1, 1, 0, 0);
        x.play(1);
        row(what -> x.fighter(0, what), 0, 20, 9, 0, 0, 8, 1, 1, 2, 3, 1, 0);
    }

    @Sentence("Promise 9: 9 the turns that it made, 10 how many of these were extra turns")
    static void turnsThatWereMade(TurnWheel x) {
        text(x, DUEL);
        x.extra(1);
        x.extra(1);
        x.play(4);
        due(x.fighter(0, 9), 2);
        due(x.fighter(0, 10), 0);
        due(x.fighter(1, 9), 2);
        due(x.fighter(1, 10), 2);
        x.play(1);
        due(x.fighter(1, 9), 3);
        due(x.fighter(1, 10), 2);
        x.undo();
        due(x.fighter(1, 9), 2);
    }

    @Sentence("Promise 9: 11 the life that others lost by its hits")
    static void lifeLostByHits(TurnWheel x) {
        text(x, DUEL);
        x.play(2);
        due(x.fighter(0, 11), 10);
        due(x.fighter(1, 11), 0);
        x.play(2);
        due(x.fighter(0, 11), 12);
        due(x.fighter(1, 11), 4);
        x.heal(1, 3);
        x.play(1);
        due(x.fighter(0, 11), 15);
    }

    @Sentence("Promise 9: if what is out of range")
    static void noSuchNumberOfAFighter(TurnWheel x) {
        text(x, DUEL);
        for (int what : new int[] {-1, 12, 13, LEAST, GREATEST}) {
            argument(() -> x.fighter(0, what));
            argument(() -> x.fighter(1, what));
            index(() -> x.fighter(2, what));
        }
    }

    // ---- 10 to 12

    @Sentence("Promise 10: NONE if there is no such act (i: any int)")
    static void kindsOfActs(TurnWheel x) {
        text(x, FIVE);
        row(i -> x.actKind(0, i), 0, 3, -1, -1, -1, -1, -1);
        row(i -> x.actKind(1, i), 1, -1);
        row(i -> x.actKind(4, i), 2, 0, 1, 2, 3, 4, -1, -1);
        for (int i : new int[] {-1, LEAST, GREATEST}) {
            due(x.actKind(0, i), -1);
        }
        text(x, "fighter a left" + SOLE);
        row(i -> x.actKind(0, i), 0, -1, -1);
        index(() -> x.actKind(1, 9));
    }

    @Sentence("Promise 11: NONE if there is no such act (i: any int)")
    static void numbersOfActs(TurnWheel x) {
        text(x, FIVE);
        row(i -> x.actNumber(0, i), 12, 5, -1, -1, -1, -1, -1);
        row(i -> x.actNumber(1, i), 7, -1);
        row(i -> x.actNumber(4, i), 1, 2, 3, 4, 5, 3, -1, -1);
        for (int i : new int[] {-1, LEAST, GREATEST}) {
            due(x.actNumber(0, i), -1);
        }
        text(x, "fighter a left" + SOLE);
        row(i -> x.actNumber(0, i), 1, -1, -1);
        index(() -> x.actNumber(-1, 9));
    }

    @Sentence("Promise 12: Returns the code of character i of the NAME of a fighter; 0 if there is none such (i: any"
            + " int).")
    static void letters(TurnWheel x) {
        text(x, FIVE);
        row(i -> x.letter(0, i), 'a', 'n', 'n', 0, 0, 0, 0, 0, 0, 0);
        row(i -> x.letter(2, i), 'c', 0, 0);
        row(i -> x.letter(3, i), 'd', 'o', 'r', 'a', 0);
        row(i -> x.letter(4, i), 'a', 'b', 'c', 'd', 'e', 'f', 'g', 'h', 0, 0);
        for (int i : new int[] {-1, -8, 64, LEAST, GREATEST}) {
            due(x.letter(0, i), 0);
            due(x.letter(4, i), 0);
        }
        index(() -> x.letter(5, -1));
    }

    // ---- 13

    @Sentence("Promise 13: Returns how many ticks it takes until the gauge of a fighter is at least the wheel, if"
            + " nobody makes a turn; 0 if it is")
    static void ticksToTheWheel(TurnWheel x) {
        text(x, FIVE);
        row(x::ticksTo, 10, 5, 4, 5, 5);
        int[] gauges = {9, 10, 11, 89, 90, 91, 99, 100, 101, 999};
        int[] ticks = {10, 9, 9, 2, 1, 1, 1, 0, 0, 0};
        for (int i = 0; i < gauges.length; i++) {
            x.push(0, 999);
            x.lift(0, gauges[i]);
            due(x.ticksTo(0), ticks[i]);
        }
        due(of("wheel 999;fighter a left" + SOLE).ticksTo(0), 999);
        due(of("wheel 999;fighter a left speed 99 life 1 plan hit 1;").ticksTo(0), 11);
    }

    @Sentence("Promise 13: if nobody makes a turn")
    static void ticksOfOthersAndExtraTurnsDoNotMatter(TurnWheel x) {
        text(x, FIVE);
        x.extra(0);
        x.lift(1, 500);
        row(x::ticksTo, 10, 0, 4, 5, 5);
        x.setWheel(501);
        row(x::ticksTo, 51, 1, 21, 26, 26);
    }

    @Sentence("Promise 13: NONE if the fighter does not live")
    static void ticksOfOneWhoDoesNotLive(TurnWheel x) {
        over(x);
        due(x.ticksTo(1), -1);
        due(x.ticksTo(0), 2);
        x.heal(1, 1);
        due(x.ticksTo(1), 4);
    }

    // ---- 14

    @Sentence("Promise 14: the least first, of several the greatest luck, of these the lowest number")
    static void theRow(TurnWheel x) {
        text(x, FIVE);
        row(x::row, 2, 3, 4, 1, 0, -1);
        x.setSpeed(0, 99);
        row(x::row, 0, 2, 3, 4, 1, -1);
    }

    @Sentence("Promise 14: by ticksTo() alone (whatever their gauges and extra turns)")
    static void gaugesDoNotMatterInTheRow(TurnWheel x) {
        text(x, FIVE);
        x.lift(0, 999);
        x.lift(1, 100);
        x.extra(2);
        row(x::row, 1, 0, 2, 3, 4, -1);
        x.lift(4, 1);
        row(x::row, 1, 0, 2, 3, 4, -1);
    }

    @Sentence("Promise 14: NONE if there is none such (i: any int)")
    static void placesOutsideTheRow(TurnWheel x) {
        due(x.row(0), -1);
        text(x, fighters(8));
        row(x::row, 0, 1, 2, 3, 4, 5, 6, 7, -1);
        for (int i : new int[] {-1, 8, LEAST, GREATEST}) {
            due(x.row(i), -1);
        }
    }

    @Sentence("Promise 14: in the row of those who live")
    static void onesWhoDoNotLiveHaveNoPlaceInTheRow(TurnWheel x) {
        over(x);
        row(x::row, 0, -1, -1);
        x.heal(1, 1);
        row(x::row, 0, 1, -1);
        text(x, "wheel 100;fighter a left speed 1 life 1 plan hit 1;fighter b right speed 99 life 9 plan hit 1;"
                + "fighter c left speed 2 life 2 plan hit 1;");
        x.play(1);
        row(x::row, 1, 2, -1);
    }

    // ---- 15 and 16

    @Sentence("Promise 15: Returns the mean speed of the fighters who live, as a double (sum / number)")
    static void theMeanSpeed(TurnWheel x) {
        text(x, "fighter a left speed 99 life 1 plan hit 1;fighter b right speed 1 life 1 plan hit 1;"
                + "fighter c right speed 1 life 1 plan hit 1;");
        due(x.meanSpeed(), 101.0 / 3);
        x.setSpeed(0, 1);
        due(x.meanSpeed(), 1.0);
        x.setSpeed(1, 2);
        due(x.meanSpeed(), 4.0 / 3);
        over(x);
        due(x.meanSpeed(), 50.0);
        x.heal(1, 1);
        due(x.meanSpeed(), 37.5);
    }

    @Sentence("Promise 15: 0.0 without any")
    static void theMeanSpeedOfNobody(TurnWheel x) {
        due(x.meanSpeed(), 0.0);
    }

    @Sentence("Promise 16: Returns the life of side 0 as a float, divided by the life of both sides as a float")
    static void theShare(TurnWheel x) {
        text(x, FIVE);
        due(x.share(), 42.0f / 102.0f);
        due((double) x.share() == 42.0 / 102.0, false);
        due(of("fighter a right" + SOLE).share(), 0.0f);
        due(of("fighter a left" + SOLE).share(), 1.0f);
        text(x, "fighter a left speed 1 life 1 plan hit 1;fighter b right speed 1 life 999 plan hit 1;"
                + "fighter c left speed 1 life 2 plan hit 1;");
        due(x.share(), 3.0f / 1002.0f);
        over(x);
        due(x.share(), 1.0f);
    }

    @Sentence("Promise 16: 0.0f if nobody lives")
    static void theShareOfNobody(TurnWheel x) {
        due(x.share(), 0.0f);
    }
}
