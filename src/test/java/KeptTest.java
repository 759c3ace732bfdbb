/** Promises 41 to 45: reports, undo, a saved state. */
public final class KeptTest {
    private static final Check CHECK = new Check();
    private static final String DUEL = "wheel 100;fighter ann left speed 50 life 20 plan hit 5;"
            + "fighter b right speed 25 life 12 plan hit 4 guard 3;";

    public static void main(String[] args) {
        reports();
        bytesOfReports();
        undoing();
        undoOfAll();
        undoOfScripts();
        sixAtMost();
        sixOfMany();
        forgetting();
        saving();
        restoring();
        CHECK.finish();
    }

    private static void reports() {
        TurnWheel x = Check.of(DUEL);
        CHECK.same("report", Check.reportOf(x), "ann 20/0*\nb 12/0\n");
        x.play(2);
        CHECK.same("report of the next one", Check.reportOf(x), "ann 20/0\nb 2/100*\n");
        x.undo();
        x.extra(1);
        x.extra(1);
        CHECK.same("report of extra turns", Check.reportOf(x), "ann 20/0\nb 12/0++*\n");
        x.lift(0, 999);
        x.heal(1, 999);
        x.extra(1);
        TurnWheel round = Check.of("fighter a left speed 1 life 10 plan rest 1;fighter b right speed 1 life 100 plan rest 1;");
        round.lift(0, 100);
        round.lift(1, 10);
        CHECK.same("report of round numbers", Check.reportOf(round), "a 10/100*\nb 100/10\n");
        CHECK.same("report of long numbers", Check.reportOf(x), "ann 20/999\nb 999/0+++*\n");
        x.lift(0, 1);
        CHECK.same("report of 1000", Check.reportOf(x), "ann 20/1000\nb 999/0+++*\n");
        Check.script(x, "repeat 10(lift ann 999;);");
        CHECK.same("report of 9999", Check.reportOf(x), "ann 20/9999\nb 999/0+++*\n");
        TurnWheel over = Check.of(DUEL);
        over.play(4);
        CHECK.same("report when it is over", Check.reportOf(over), "ann 16/0\nb 0/0\n");
        over.extra(0);
        CHECK.same("report of extra turns when it is over", Check.reportOf(over), "ann 16/0+\nb 0/0\n");
        TurnWheel none = new TurnWheel();
        CHECK.same("report of nobody", none.report(), 0);
        CHECK.index("byte 0 of an empty report", () -> none.reportByte(0));
        StringBuilder text = new StringBuilder();
        StringBuilder due = new StringBuilder();
        for (char c = 'a'; c <= 'h'; c++) {
            text.append("fighter abcdefg").append(c).append(c < 'c' ? " left" : " right")
                    .append(" speed 1 life 999 plan hit 1;");
            due.append("abcdefg").append(c).append(" 999/9999+++").append(c == 'a' ? "*\n" : "\n");
        }
        TurnWheel most = Check.of(text.toString());
        for (char c = 'a'; c <= 'h'; c++) {
            Check.script(most, "repeat 11(lift abcdefg" + c + " 999;);repeat 3(extra abcdefg" + c + ";);");
        }
        CHECK.same("the longest report", Check.reportOf(most), due.toString());
    }

    private static void bytesOfReports() {
        TurnWheel x = Check.of(DUEL);
        CHECK.index("a byte without a report", () -> x.reportByte(0));
        CHECK.same("report's length", x.report(), 17);
        CHECK.same("byte 0", x.reportByte(0), 'a');
        CHECK.same("byte 16", x.reportByte(16), '\n');
        for (int i : new int[] {17, -1, 176, Integer.MIN_VALUE, Integer.MAX_VALUE}) {
            CHECK.index("byte " + i, () -> x.reportByte(i));
        }
        x.play(4);
        CHECK.same("the report is of before", x.reportByte(4), '2');
        CHECK.same("a shorter report", x.report(), 15);
        CHECK.same("the report is of now", x.reportByte(4), '1');
        CHECK.index("the byte behind a shorter report", () -> x.reportByte(15));
    }

    private static void undoing() {
        TurnWheel x = Check.of(DUEL);
        CHECK.same("undo of nothing", x.undo(), -1);
        x.play(1);
        x.play(2);
        CHECK.same("to undo", x.setting(9), 2);
        CHECK.same("undo", x.undo(), 1);
        CHECK.same("undo: turns", x.setting(3), 1);
        CHECK.same("undo again", x.undo(), 0);
        CHECK.same("undo again: turns", x.setting(3), 0);
        CHECK.same("undo of nothing more", x.undo(), -1);
        CHECK.same("undo of nothing more changes nothing", x.setting(3), 0);
        x.play(3);
        x.report();
        Check.fed(x, "junk");
        x.undo();
        CHECK.same("undo leaves the report", x.reportByte(4), '1');
        CHECK.same("undo leaves the buffer", x.truncate(4), 4);
    }

    private static String all(TurnWheel x) {
        StringBuilder all = new StringBuilder();
        for (int i = 0; i < 9; i++) {
            all.append(x.setting(i)).append(' ');
        }
        for (int f = 0; f < x.setting(0); f++) {
            for (int i = 0; i < 12; i++) {
                all.append(x.fighter(f, i)).append(' ').append(x.actKind(f, i)).append(' ')
                        .append(x.actNumber(f, i)).append(' ').append(x.letter(f, i)).append(' ');
            }
        }
        return all.toString();
    }

    private static void undoOfAll() {
        TurnWheel x = Check.of(DUEL);
        x.play(1);
        x.extra(1);
        Runnable[] changes = {() -> x.play(2), () -> x.play(99), () -> x.push(1, 9), () -> x.lift(0, 9),
            () -> x.extra(0), () -> x.setSpeed(0, 9), () -> x.heal(1, 9), () -> x.setWheel(777),
            () -> x.setAct(1, 1, 4, 3), () -> Check.script(x, "turn 2;wheel 100;act b 0 rest 1;speed b 7;heal ann 9;")};
        for (int i = 0; i < changes.length; i++) {
            String before = all(x);
            changes[i].run();
            CHECK.yes("change " + i + " is one", !all(x).equals(before));
            x.undo();
            CHECK.same("undo of change " + i, all(x), before);
        }
    }

    private static void undoOfScripts() {
        TurnWheel x = Check.of(DUEL);
        Check.script(x, "lift ann 1;lift ann 1;lift ann 1;");
        CHECK.same("a script is one to undo", x.setting(9), 1);
        Check.script(x, "");
        CHECK.same("a script without a command, too", x.setting(9), 2);
        Check.script(x, "lift ann 0;");
        CHECK.same("a script that ends at once, too", x.setting(9), 3);
        Check.fed(x, "lift;");
        CHECK.argument("a wrong script", x::runScript);
        CHECK.same("a wrong script is none", x.setting(9), 3);
        x.extra(0);
        x.extra(0);
        x.extra(0);
        CHECK.yes("a refused one", !x.extra(0));
        CHECK.state("a wrong one", () -> Check.of("").play(1));
        CHECK.same("a refused one is none", x.setting(9), 6);
        CHECK.same("undo one", x.undo(), 5);
        CHECK.same("undo two", x.undo(), 4);
        CHECK.same("undo three", x.undo(), 3);
        CHECK.same("undo the script that ended at once", x.undo(), 2);
        CHECK.same("undo the script without a command", x.undo(), 1);
        CHECK.same("the first script stands", x.fighter(0, 4), 3);
        CHECK.same("undo the first script", x.undo(), 0);
        CHECK.same("the first script is undone as a whole", x.fighter(0, 4), 0);
    }

    private static void sixAtMost() {
        TurnWheel x = Check.of(DUEL);
        for (int n = 1; n <= 8; n++) {
            x.lift(0, 1);
            CHECK.same("to undo behind " + n, x.setting(9), Math.min(n, 6));
        }
        CHECK.same("undo the latest", x.undo(), 5);
        x.lift(0, 50);
        CHECK.same("a new one in its place", x.setting(9), 6);
        CHECK.same("undo the new one", x.undo(), 5);
        for (int n = 4; n >= 0; n--) {
            CHECK.same("undo leaves", x.undo(), n);
        }
        CHECK.same("the oldest two stay", x.fighter(0, 4), 2);
        CHECK.same("no more", x.undo(), -1);
    }

    private static void sixOfMany() {
        TurnWheel x = Check.of(DUEL);
        for (int round = 1; round <= 3; round++) {
            x.push(0, 999);
            for (int n = 1; n <= 6 + round; n++) {
                x.lift(0, 1);
            }
            for (int n = 5 + round; n >= round; n--) {
                x.undo();
                CHECK.same("undo leaves the gauge", x.fighter(0, 4), n);
            }
            CHECK.same("no more than six", x.undo(), -1);
        }
    }

    private static void forgetting() {
        TurnWheel x = Check.of(DUEL);
        x.save();
        x.play(1);
        x.restore();
        CHECK.same("restore forgets", x.setting(9), 0);
        CHECK.same("nothing to undo behind restore", x.undo(), -1);
        x.play(1);
        Check.fed(x, DUEL);
        x.readText();
        CHECK.same("readText forgets", x.undo(), -1);
        TurnWheel y = Check.of(DUEL);
        y.play(1);
        CHECK.state("restore of nothing", y::restore);
        CHECK.same("restore of nothing forgets nothing", y.setting(9), 1);
        y.save();
        CHECK.same("save forgets nothing", y.setting(9), 1);
        CHECK.same("save is none to undo", y.undo(), 0);
    }

    private static void saving() {
        TurnWheel x = Check.of(DUEL);
        CHECK.same("save at 0", x.save(), 0);
        x.play(1);
        CHECK.same("save at 2, in place of the first", x.save(), 2);
        x.play(2);
        CHECK.same("restore tells the time", x.restore(), 2);
        CHECK.same("restore: turns", x.setting(3), 1);
        TurnWheel none = new TurnWheel();
        CHECK.same("save of nobody", none.save(), 0);
        Check.fed(none, DUEL);
        none.readText();
        CHECK.same("restore of nobody", none.restore(), 0);
        CHECK.same("nobody is there", none.setting(0), 0);
        CHECK.index("really nobody", () -> none.fighter(0, 0));
    }

    private static void restoring() {
        TurnWheel x = Check.of(DUEL);
        x.play(2);
        x.setAct(1, 1, 6, 9);
        x.setWheel(150);
        x.extra(1);
        String before = all(x);
        x.save();
        x.report();
        Check.fed(x, "fighter zed right speed 1 life 1 luck 9 plan rest 1;");
        x.readText();
        x.setWheel(999);
        Check.fed(x, "junk");
        CHECK.same("restore behind another text", x.restore(), 4);
        CHECK.same("all is as it was saved", all(x), before);
        CHECK.same("restore leaves the buffer", x.truncate(4), 4);
        CHECK.same("restore leaves the report", x.reportByte(0), 'a');
        x.play(1);
        x.undo();
        x.play(1);
        CHECK.same("what is saved stays", x.restore(), 4);
        CHECK.same("all is as it was saved again", all(x), before);
        x.heal(0, 9);
        x.undo();
        CHECK.same("undo leaves what is saved", x.restore(), 4);
        CHECK.same("a script with the names of before", Check.script(x, "heal ann 1;"), 1);
    }
}
