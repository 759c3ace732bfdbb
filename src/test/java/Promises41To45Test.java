/** Promises 41 to 45: reports, undo, a saved state. */
public final class Promises41To45Test extends Run {
    private static final String TWO = "wheel 100;fighter ann left speed 50 life 20 plan hit 5;"
            + "fighter b right speed 25 life 12 plan hit 4 guard 3;";

    public static void main(String[] args) throws IllegalAccessException {
        Sentences.test(Promises41To45Test.class);
    }

    // ---- 41 and 42

    @Sentence("Promise 41: for each fighter a line: its name, a space, its life, a slash (byte 47), its gauge")
    static void linesOfAReport(TurnWheel x) {
        text(x, TWO);
        due(x.report(), 17);
        due(report(x), "ann 20/0*\nb 12/0\n");
        int[] numbers = {1, 9, 10, 11, 99, 100, 101, 110, 999};
        for (int n : numbers) {
            TurnWheel y = of("fighter abcdefgh left speed 1 life " + n + " plan hit 1;");
            y.lift(0, n);
            due(report(y), "abcdefgh " + n + "/" + n + "\n");
            lift(y, 0, 9000);
            due(report(y), "abcdefgh " + n + "/" + (9000 + n) + "\n");
        }
        x.lift(0, 999);
        x.lift(0, 1);
        due(report(x), "ann 20/1000*\nb 12/0\n");
    }

    @Sentence("Promise 41: a plus sign (byte 43) for each extra turn")
    static void extraTurnsInAReport(TurnWheel x) {
        text(x, TWO);
        x.extra(1);
        due(report(x), "ann 20/0\nb 12/0+*\n");
        x.extra(1);
        x.extra(1);
        due(report(x), "ann 20/0\nb 12/0+++*\n");
        x.extra(0);
        due(report(x), "ann 20/0+*\nb 12/0+++\n");
    }

    @Sentence("Promise 41: and an asterisk (byte 42) if it makes the next turn (not if the fight is over)")
    static void theNextOneInAReport(TurnWheel x) {
        text(x, TWO);
        x.play(2);
        due(report(x), "ann 20/0\nb 2/100*\n");
        x.play(2);
        due(x.setting(8), 1);
        due(report(x), "ann 16/0\nb 0/0\n");
        x.extra(0);
        x.lift(0, 999);
        due(report(x), "ann 16/999+\nb 0/0\n");
        due(report(of("fighter a left speed 1 life 1 plan hit 1;")), "a 1/0\n");
    }

    @Sentence("Promise 41: Writes a report, in place of the one before")
    static void aShorterReportInPlaceOfALongerOne(TurnWheel x) {
        text(x, TWO);
        due(x.report(), 17);
        x.play(4);
        due(written(x, 17), "ann 20/0*\nb 12/0\n");
        due(x.report(), 15);
        due(written(x, 15), "ann 16/0\nb 0/0\n");
        index(() -> x.reportByte(15));
        text(x, "");
        due(x.reportByte(14), '\n');
        due(x.report(), 0);
        index(() -> x.reportByte(0));
    }

    @Sentence("Promise 41: @return the number of its bytes")
    static void theLongestReport(TurnWheel x) {
        due(x.report(), 0);
        StringBuilder text = new StringBuilder();
        StringBuilder want = new StringBuilder();
        for (char c = 'a'; c <= 'h'; c++) {
            text.append("fighter abcdefg").append(c).append(c < 'c' ? " left" : " right")
                    .append(" speed 1 life 999 plan hit 1;");
            want.append("abcdefg").append(c).append(" 999/9999+++").append(c == 'a' ? "*\n" : "\n");
        }
        text(x, text.toString());
        for (char c = 'a'; c <= 'h'; c++) {
            script(x, "repeat 11(lift abcdefg" + c + " 999;);repeat 3(extra abcdefg" + c + ";);");
        }
        due(x.report(), 8 * 21 + 1);
        due(written(x, 8 * 21 + 1), want.toString());
    }

    @Sentence("Promise 42: Throws `IndexOutOfBoundsException` if there is no such byte, or there was no report")
    static void noSuchByteOfAReport(TurnWheel x) {
        index(() -> x.reportByte(0));
        text(x, TWO);
        index(() -> x.reportByte(0));
        due(x.report(), 17);
        due(x.reportByte(0), 'a');
        due(x.reportByte(16), '\n');
        for (int i : new int[] {-1, 17, 18, 176, LEAST, GREATEST}) {
            index(() -> x.reportByte(i));
        }
    }

    @Sentence("Promise 42: or there was no report")
    static void bytesOfAnEmptyReport(TurnWheel x) {
        x.report();
        for (int i : new int[] {0, -1, 1, LEAST, GREATEST}) {
            index(() -> x.reportByte(i));
        }
    }

    // ---- 43

    @Sentence("Promise 43: Undoes the latest call that can be undone. @return the number of calls that can still be"
            + " undone")
    static void theLatestCallIsUndone(TurnWheel x) {
        text(x, TWO);
        x.play(1);
        x.play(2);
        due(x.setting(3), 3);
        due(x.undo(), 1);
        due(x.setting(3), 1);
        due(x.setting(2), 2);
        due(x.setting(9), 1);
        due(x.undo(), 0);
        due(x.setting(3), 0);
        due(x.setting(9), 0);
    }

    @Sentence("Promise 43: NONE, and nothing changes, if there is none")
    static void nothingToUndo(TurnWheel x) {
        due(x.undo(), -1);
        text(x, TWO);
        due(x.undo(), -1);
        x.play(1);
        x.undo();
        x.save();
        String before = all(x);
        due(x.undo(), -1);
        due(x.undo(), -1);
        due(all(x), before);
        x.play(1);
        due(x.setting(9), 1);
    }

    // ---- 44 and 45

    @Sentence("Promise 44: Saves all but the buffer, the error, the report, what can be undone and what is saved, in"
            + " place of an earlier one. @return the time")
    static void aLaterStateInPlaceOfAnEarlierOne(TurnWheel x) {
        text(x, TWO);
        due(x.save(), 0);
        x.play(1);
        due(x.save(), 2);
        String saved = fight(x);
        x.play(2);
        due(x.restore(), 2);
        due(fight(x), saved);
        due(new TurnWheel().save(), 0);
    }

    @Sentence("Promise 44: Saves all but the buffer, the error, the report, what can be undone and what is saved")
    static void whatIsNotSaved(TurnWheel x) {
        text(x, TWO);
        x.play(1);
        report(x);
        fed(x, "wheel 5");
        x.save();
        due(x.setting(9), 1);
        due(x.truncate(7), 7);
        wrongScript(x, "lift zed 1;", 4, 5);
        x.play(1);
        String report = report(x);
        fed(x, "wheel 123;");
        x.restore();
        due(x.errorCode(), 4);
        due(x.errorPosition(), 5);
        due(written(x, report.length()), report);
        index(() -> x.reportByte(report.length()));
        due(x.setting(9), 0);
        argument(() -> x.truncate(11));
        due(x.readText(), 0);
        due(x.setting(1), 123);
    }

    @Sentence("Promise 45: Restores what was saved, which stays. Returns the time then.")
    static void whatIsSavedStays(TurnWheel x) {
        text(x, TWO);
        x.play(2);
        x.setAct(1, 1, 6, 9);
        x.setWheel(150);
        x.extra(1);
        x.save();
        String saved = fight(x);
        for (int n = 0; n < 3; n++) {
            x.setAct(1, 0, 2, 1 + n);
            x.play(1);
            x.heal(0, 9);
            x.undo();
            due(x.restore(), 4);
            due(fight(x), saved);
        }
        due(script(x, "heal ann 1;"), 1);
    }

    @Sentence("Promise 45: Restores what was saved")
    static void allIsRestored(TurnWheel x) {
        text(x, TWO);
        x.play(3);
        x.save();
        String saved = fight(x);
        text(x, "wheel 999;"
                + "fighter zed right speed 1 life 1 luck 9 plan rest 1 rest 2 rest 3 rest 4 rest 5 rest 6;"
                + DUEL.substring(10));
        x.play(2);
        due(x.restore(), 4);
        due(fight(x), saved);
        row(i -> x.letter(0, i), 'a', 'n', 'n', 0);
        due(x.fighter(0, 9), 2);
        due(x.fighter(0, 11), 10);
        due(x.play(9), 1);
    }

    @Sentence("Promise 45: Restores what was saved")
    static void nobodyIsSavedAndRestored(TurnWheel x) {
        due(x.save(), 0);
        text(x, TWO);
        x.play(1);
        due(x.restore(), 0);
        due(all(x), all(new TurnWheel()));
        index(() -> x.fighter(0, 0));
    }

    @Sentence("Promise 45: Throws `IllegalStateException` if nothing was saved")
    static void nothingWasSaved(TurnWheel x) {
        state(x::restore);
        text(x, TWO);
        x.play(1);
        String before = all(x);
        state(x::restore);
        due(all(x), before);
        x.save();
        due(x.restore(), 2);
        text(x, "");
        due(x.restore(), 2);
    }
}
