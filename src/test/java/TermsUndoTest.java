import java.util.ArrayList;
import java.util.List;
import java.util.function.Consumer;
import java.util.function.IntConsumer;

/** Terms 4, and what stands behind the terms on exceptions and on what comes. */
public final class TermsUndoTest extends Run {
    private static final String TWO = "wheel 100;fighter ann left speed 50 life 20 plan hit 5;"
            + "fighter b right speed 25 life 12 plan hit 4 guard 3;";

    public static void main(String[] args) throws IllegalAccessException {
        Sentences.test(TermsUndoTest.class);
    }

    /** On a new object: the call is one more to undo, and all is as before it then. */
    private static void undone(String before, Consumer<TurnWheel> call) {
        TurnWheel x = of(TWO);
        script(x, before);
        String was = all(x);
        call.accept(x);
        due(x.setting(9), 2);
        due(x.undo(), 1);
        due(all(x), was);
    }

    // ---- what can be undone

    @Sentence("Terms 4: Each call of a method below \"changes\" and each call of runScript()")
    static void eachChangeCanBeUndone(TurnWheel x) {
        String before = "extra b;turn 1;extra b;lift ann 50;turn 1;lift b 80;";
        undone(before, y -> y.play(1));
        undone(before, y -> y.play(2));
        undone(before, y -> due(y.play(99) < 99, true));
        undone(before, y -> y.push(1, 9));
        undone(before, y -> y.lift(0, 9));
        undone(before, y -> due(y.extra(0), true));
        undone(before, y -> y.setSpeed(0, 9));
        undone(before, y -> y.heal(1, 9));
        undone(before, y -> y.setWheel(777));
        undone(before, y -> y.setAct(1, 1, 4, 3));
        undone("turn 99;", y -> y.heal(1, 9));
        undone(before, y -> script(y, "turn 2;wheel 100;act b 0 rest 1;speed b 7;heal ann 9;"));
    }

    @Sentence("Terms 4: that was done without an exception")
    static void aChangeThatLeavesAllAsItIsCounts(TurnWheel x) {
        undone("", y -> y.push(1, 9));
        undone(lifts("b", 9999), y -> y.lift(1, 9));
        undone("heal b 999;", y -> y.heal(1, 9));
        undone("", y -> y.setSpeed(0, 50));
        undone("", y -> y.setWheel(100));
        undone("", y -> y.setAct(0, 0, 0, 5));
    }

    @Sentence("Terms 4: (as a whole, also if no command was done)")
    static void aScriptIsUndoneAsAWhole(TurnWheel x) {
        undone("lift b 7;", y -> due(script(y, "repeat 5(lift ann 9;turn 1;);"), 9));
        undone("lift b 7;", y -> due(script(y, ""), 0));
        undone("lift b 7;", y -> due(script(y, "lift ann 0;lift ann 1;"), 0));
        undone("lift b 7;", y -> due(script(y, "lift ann 1;turn 0;"), 1));
    }

    @Sentence("Terms 4: that was done without an exception, and that did not return false")
    static void whatWasRefusedCannotBeUndone(TurnWheel x) {
        text(x, TWO);
        due(script(x, "extra ann;extra ann;extra ann;"), 3);
        due(x.extra(0), false);
        due(x.setting(9), 1);
        wrongScript(x, "lift;", 1, 4);
        due(x.setting(9), 1);
        argument(() -> x.push(0, 0));
        argument(() -> x.play(0));
        index(() -> x.heal(2, 1));
        due(x.setting(9), 1);
        due(x.undo(), 0);
        due(x.fighter(0, 6), 0);
    }

    @Sentence("Terms 4: Each call of a method below \"changes\" and each call of runScript()")
    static void noOtherCallCanBeUndone(TurnWheel x) {
        text(x, TWO);
        x.save();
        x.report();
        x.feed(0, 0, 0, 0, 0);
        x.truncate(3);
        x.turn(0);
        due(x.setting(9), 0);
        due(x.undo(), -1);
    }

    @Sentence("Terms 4: can be undone, the latest first")
    static void theLatestFirst(TurnWheel x) {
        text(x, TWO);
        x.lift(0, 10);
        x.lift(0, 3);
        x.lift(0, 5);
        due(x.undo(), 2);
        due(x.fighter(0, 4), 13);
        due(x.undo(), 1);
        due(x.fighter(0, 4), 10);
        x.lift(0, 7);
        due(x.undo(), 1);
        due(x.fighter(0, 4), 10);
        due(x.undo(), 0);
        due(x.fighter(0, 4), 0);
    }

    @Sentence("Terms 4: the latest 6 of them are kept")
    static void sixAreKept(TurnWheel x) {
        text(x, TWO);
        for (int n = 1; n <= 6; n++) {
            x.lift(0, 1);
            due(x.setting(9), n);
        }
        for (int n = 5; n >= 0; n--) {
            due(x.undo(), n);
            due(x.fighter(0, 4), n);
        }
        due(x.undo(), -1);
    }

    @Sentence("Terms 4: the latest 6 of them are kept")
    static void aSeventhTakesTheOldestAway(TurnWheel x) {
        text(x, TWO);
        for (int n = 1; n <= 7; n++) {
            x.lift(0, 1);
        }
        due(x.setting(9), 6);
        for (int n = 5; n >= 0; n--) {
            due(x.undo(), n);
            due(x.fighter(0, 4), n + 1);
        }
        due(x.undo(), -1);
        due(x.fighter(0, 4), 1);
    }

    @Sentence("Terms 4: the latest 6 of them are kept")
    static void manyMoreThanSix(TurnWheel x) {
        text(x, TWO);
        for (int round = 1; round <= 3; round++) {
            x.push(0, 999);
            for (int n = 1; n <= 6 + round; n++) {
                x.lift(0, 1);
            }
            for (int n = 5; n >= 0; n--) {
                due(x.undo(), n);
                due(x.fighter(0, 4), n + round);
            }
            due(x.undo(), -1);
        }
    }

    @Sentence("Terms 4: All is as before it then but the report, the buffer, the error and what is saved.")
    static void undoLeavesTheReport(TurnWheel x) {
        text(x, TWO);
        x.play(3);
        String behind = report(x);
        x.undo();
        due(written(x, behind.length()), behind);
        index(() -> x.reportByte(behind.length()));
        due(report(x).equals(behind), false);
    }

    @Sentence("Terms 4: All is as before it then but the report, the buffer")
    static void undoLeavesTheBuffer(TurnWheel x) {
        text(x, TWO);
        script(x, "lift ann 1;");
        fed(x, "wheel 123;");
        x.undo();
        due(x.feed(SPACES, SPACES, SPACES, SPACES, SPACES), 30);
        x.readText();
        due(x.setting(1), 123);
    }

    @Sentence("Terms 4: but the report, the buffer, the error and what is saved")
    static void undoLeavesTheError(TurnWheel x) {
        text(x, TWO);
        x.play(1);
        wrongScript(x, "turn 1;lift zed 1;", 4, 12);
        x.undo();
        due(x.errorCode(), 4);
        due(x.errorPosition(), 12);
    }

    @Sentence("Terms 4: but the report, the buffer, the error and what is saved")
    static void undoLeavesWhatIsSaved(TurnWheel x) {
        text(x, TWO);
        x.play(1);
        due(x.save(), 2);
        due(x.undo(), 0);
        due(x.setting(2), 0);
        due(x.restore(), 2);
        due(x.setting(3), 1);
    }

    @Sentence("Terms 4: readText() and restore() forget them.")
    static void readTextForgetsWhatCanBeUndone(TurnWheel x) {
        text(x, TWO);
        x.play(1);
        x.play(1);
        text(x, TWO);
        due(x.setting(9), 0);
        due(x.undo(), -1);
        x.play(1);
        wrongTextHere(x);
        due(x.setting(9), 1);
        due(x.undo(), 0);
        due(x.setting(3), 0);
    }

    private static void wrongTextHere(TurnWheel x) {
        fed(x, "wheel 99;");
        argument(x::readText);
    }

    @Sentence("Terms 4: readText() and restore() forget them.")
    static void restoreForgetsWhatCanBeUndone(TurnWheel x) {
        text(x, TWO);
        x.play(1);
        state(x::restore);
        due(x.setting(9), 1);
        x.save();
        due(x.setting(9), 1);
        x.restore();
        due(x.setting(9), 0);
        due(x.undo(), -1);
        due(x.setting(3), 1);
    }

    // ---- exceptions

    @Sentence("Behind the terms: If several exceptions apply to a call, the one that is listed first is thrown.")
    static void theExceptionThatIsListedFirst(TurnWheel x) {
        text(x, DUEL);
        x.play(4);
        index(() -> x.fighter(2, 12));
        index(() -> x.lifeIn(2, 201));
        index(() -> x.gaugeIn(-1, -1));
        index(() -> x.turnsOf(2, 201));
        index(() -> x.push(2, 0));
        index(() -> x.lift(2, 0));
        index(() -> x.setSpeed(2, 0));
        index(() -> x.heal(2, 0));
        index(() -> x.setAct(2, 1, 7, 0));
        argument(() -> x.push(1, 0));
        argument(() -> x.push(1, 1000));
        argument(() -> x.lift(1, 0));
        argument(() -> x.lift(1, 1000));
        argument(() -> x.play(0));
        argument(() -> x.play(100));
    }

    @Sentence("Behind the terms: A call that throws an exception changes nothing, unless something else is said.")
    static void aCallThatThrowsChangesNothing(TurnWheel x) {
        List<Consumer<TurnWheel>> calls = List.of(y -> y.play(1), y -> y.play(0), y -> y.play(100), y -> y.push(1, 1),
                y -> y.push(0, 0), y -> y.lift(1, 1), y -> y.lift(0, 1000), y -> y.extra(1), y -> y.setSpeed(0, 0),
                y -> y.setSpeed(0, 100), y -> y.heal(0, 0), y -> y.heal(1, 1000), y -> y.setWheel(99),
                y -> y.setWheel(1000), y -> y.setAct(0, 1, 0, 1), y -> y.setAct(0, 0, 7, 1), y -> y.setAct(0, 0, 4, 4),
                y -> y.setAct(0, 0, 0, 0), y -> y.push(2, 1), y -> y.truncate(1), y -> y.restore());
        for (Consumer<TurnWheel> call : calls) {
            TurnWheel y = of(DUEL);
            y.play(4);
            y.lift(0, 7);
            String before = all(y);
            String report = report(y);
            boolean threw = false;
            try {
                call.accept(y);
            } catch (RuntimeException e) {
                threw = true;
            }
            due(threw, true);
            due(all(y), before);
            due(written(y, report.length()), report);
            due(y.errorCode(), 0);
            due(y.truncate(0), 0);
        }
    }

    private static List<IntConsumer> callsOfAFighter(TurnWheel x) {
        List<IntConsumer> all = new ArrayList<>(List.of(f -> x.fighter(f, 0), f -> x.actKind(f, 0),
                f -> x.actNumber(f, 0), f -> x.letter(f, 0), x::ticksTo, f -> x.lifeIn(f, 0), f -> x.gaugeIn(f, 0),
                f -> x.turnsOf(f, 0), x::firstLoss, x::leastSpeed));
        all.addAll(List.of(x::bestSwap, x::bestPlace, f -> x.push(f, 1), f -> x.lift(f, 1), x::extra,
                f -> x.setSpeed(f, 1), f -> x.heal(f, 1), f -> x.setAct(f, 0, 0, 1)));
        return all;
    }

    @Sentence("Behind the terms: The parameters fighter and other are numbers of existing fighters; otherwise"
            + " IndexOutOfBoundsException is thrown.")
    static void numbersOfNoFighter(TurnWheel x) {
        for (int fighters = 0; fighters <= 8; fighters++) {
            TurnWheel y = of(fighters(fighters));
            for (IntConsumer call : callsOfAFighter(y)) {
                for (int f : new int[] {-1, fighters, fighters + 1, 8, LEAST, GREATEST}) {
                    index(() -> call.accept(f));
                }
                if (fighters > 0) {
                    call.accept(0);
                    call.accept(fighters - 1);
                }
            }
        }
    }

    // ---- what comes

    @Sentence("Behind the terms: What \"comes\" is what would be if turns were made now, one after another, and nothing"
            + " else")
    static void whatComesIsWhatIsThereThen(TurnWheel x) {
        String text = "wheel 150;fighter a left speed 35 life 40 luck 3 plan hit 9 push 80 speed 60 guard 4;"
                + "fighter b right speed 35 life 60 plan lift 70 hit 7 again 2;"
                + "fighter c left speed 20 life 9 plan rest 3 hit 2;"
                + "fighter d right speed 50 life 20 plan guard 5 hit 8 rest 2;";
        text(x, text);
        x.extra(2);
        for (int n = 0; n < 40; n++) {
            TurnWheel y = of(text);
            y.extra(2);
            if (n > 0) {
                y.play(n);
            }
            for (int f = 0; f < 4; f++) {
                due(x.lifeIn(f, n), y.fighter(f, 2));
                due(x.gaugeIn(f, n), y.fighter(f, 4));
            }
            due(x.turn(n), y.turn(0));
            due(x.turnTime(n), y.turnTime(0));
        }
    }

    @Sentence("Behind the terms: a fight that is over has no more turns")
    static void aFightThatIsOverHasNoMoreTurns(TurnWheel x) {
        text(x, DUEL);
        x.play(4);
        x.extra(0);
        x.lift(0, 500);
        due(x.turn(0), -1);
        due(x.turnTime(0), -1);
        due(x.turnKind(0), -1);
        due(x.turnsOf(0, 200), 0);
        due(x.longestRun(200), 0);
        due(x.gaugeIn(0, 200), 500);
        due(x.lifeIn(0, 200), 16);
        due(x.firstLoss(0), -1);
        due(x.repeatIn(), -1);
        due(x.endsIn(), 0);
        state(() -> x.play(1));
        due(x.setting(2), 6);
    }

    @Sentence("Behind the terms: Nothing changes by asking")
    static void nothingChangesByAsking(TurnWheel x) {
        text(x, DUEL + "fighter c left speed 3 life 9 plan rest 1;");
        x.play(1);
        x.lift(1, 9);
        String before = all(x);
        fed(x, "wheel 123;");
        x.turn(9);
        x.turnTime(9);
        x.turnKind(9);
        x.lifeIn(0, 200);
        x.gaugeIn(0, 200);
        x.turnsOf(0, 200);
        x.longestRun(200);
        x.endsIn();
        x.winner();
        x.firstLoss(0);
        x.repeatIn();
        x.cycle();
        x.leastSpeed(1);
        x.bestPush(0, 9);
        x.bestSwap(0);
        x.bestPlace(0);
        x.row(0);
        x.report();
        due(all(x), before);
        due(x.truncate(10), 10);
        due(x.undo(), 1);
    }

    @Sentence("Behind the terms: the bound of the number of turns does not matter then")
    static void whatComesBehindTheBoundOfTurns(TurnWheel x) {
        text(x, "wheel 100;fighter a left speed 50 life 9 plan guard 5;"
                + "fighter b right speed 50 life 9 plan guard 5 guard 7;");
        for (int n = 0; n < 101; n++) {
            x.play(99);
        }
        state(() -> x.play(1));
        due(x.setting(3), 9999);
        due(x.turn(0), 1);
        due(x.turn(99), 0);
        due(x.turnTime(99), 10100);
        due(x.turnsOf(0, 200), 100);
        due(x.longestRun(200), 1);
        due(x.repeatIn(), 4);
        due(x.endsIn(), -1);
        x.setAct(1, 0, 0, 99);
        x.setAct(1, 1, 0, 99);
        due(x.endsIn(), 1);
        due(x.winner(), 1);
        due(x.firstLoss(0), 1);
        due(x.lifeIn(0, 1), 0);
        due(report(x), "a 9/0\nb 9/100*\n");
    }
}
