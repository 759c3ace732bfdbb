/** Promises 1 to 7: a new object, the buffer, texts, scripts and their errors. */
public final class TextsTest {
    private static final Check CHECK = new Check();
    private static final String ANN = "fighter ann left speed 10 life 30 luck 2 plan hit 12 guard 5;";
    private static final String BOB = "fighter bob right speed 20 life 40 plan hit 7;";

    public static void main(String[] args) {
        newObject();
        feeding();
        truncating();
        readingTexts();
        errorsOfTexts();
        limitsOfTexts();
        rangesOfTexts();
        textsWithErrorsChangeNothing();
        runningScripts();
        scriptsThatEndEarly();
        errorsOfScripts();
        limitsOfScripts();
        errorsTold();
        CHECK.finish();
    }

    private static void newObject() {
        TurnWheel x = new TurnWheel();
        int[] due = {0, 300, 0, 0, 0, 0, 0, -1, 1, 0};
        for (int i = 0; i < due.length; i++) {
            CHECK.same("new: setting " + i, x.setting(i), due[i]);
        }
        CHECK.same("new: the buffer is empty", x.feed(0, 0, 0, 0, 0), 20);
        CHECK.same("new: errorCode", x.errorCode(), 0);
        CHECK.same("new: errorPosition", x.errorPosition(), -1);
        CHECK.same("new: NONE", TurnWheel.NONE, -1);
        CHECK.index("new: no fighter", () -> x.fighter(0, 0));
        CHECK.index("new: no report", () -> x.reportByte(0));
        CHECK.state("new: nothing saved", x::restore);
        CHECK.same("new: nothing to undo", x.undo(), -1);
        TurnWheel read = new TurnWheel();
        CHECK.same("an empty text", read.readText(), 0);
        CHECK.same("an empty text: wheel", read.setting(1), 300);
    }

    private static void feeding() {
        TurnWheel x = new TurnWheel();
        for (int i = 1; i <= 30; i++) {
            CHECK.same("feed " + i, x.feed(0x20202020, 0x20202020, 0x20202020, 0x20202020, 0x20202020), 20 * i);
        }
        CHECK.state("feed of a full buffer", () -> x.feed(0, 0, 0, 0, 0));
        CHECK.same("a refused feed adds nothing", x.truncate(600), 600);
        x.truncate(581);
        CHECK.state("feed beyond 600", () -> x.feed(0, 0, 0, 0, 0));
        x.truncate(580);
        CHECK.same("feed up to 600", x.feed(0x20202020, 0x20202020, 0x20202020, 0x20202020, 0x20202020), 600);
        CHECK.same("600 spaces are a text", x.readText(), 0);
        x.feed(0x77686565, 0x6c203132, 0x333b2020, 0x20202020, 0x20202020);
        x.readText();
        CHECK.same("the most significant byte first", x.setting(1), 123);
        x.feed(0x20202020, 0x20202020, 0x20202020, 0x20202020, 0x202020e9);
        CHECK.argument("a byte above 127", x::readText);
        CHECK.same("a byte above 127: where", x.errorPosition(), 19);
    }

    private static void truncating() {
        TurnWheel x = new TurnWheel();
        CHECK.same("truncate 0 of 0", x.truncate(0), 0);
        CHECK.argument("truncate 1 of 0", () -> x.truncate(1));
        x.feed(0x77686565, 0x6c203130, 0x303b3b20, 0, 0);
        CHECK.argument("truncate -1", () -> x.truncate(-1));
        CHECK.argument("truncate 21 of 20", () -> x.truncate(21));
        CHECK.argument("truncate of the least int", () -> x.truncate(Integer.MIN_VALUE));
        CHECK.same("truncate 20 of 20", x.truncate(20), 20);
        CHECK.same("truncate 10 of 20", x.truncate(10), 10);
        CHECK.argument("what was cut off is gone", () -> x.truncate(11));
        CHECK.same("what is left is read", x.readText(), 0);
        CHECK.same("what is left was read", x.setting(1), 100);
    }

    private static void readingTexts() {
        TurnWheel x = Check.of(ANN + "\n wheel 150 ;" + BOB);
        CHECK.same("fighters", x.setting(0), 2);
        CHECK.same("wheel between fighters", x.setting(1), 150);
        int[] ann = {0, 10, 30, 2, 0, 0, 0, 0, 2, 0, 0, 0};
        int[] bob = {1, 20, 40, 0, 0, 0, 0, 0, 1, 0, 0, 0};
        for (int i = 0; i < 12; i++) {
            CHECK.same("ann " + i, x.fighter(0, i), ann[i]);
            CHECK.same("bob " + i, x.fighter(1, i), bob[i]);
        }
        CHECK.same("the buffer is empty behind a text", x.feed(0, 0, 0, 0, 0), 20);
        TurnWheel y = Check.of("fighter left right speed1life2luck3plan hit4push5lift6guard7again1speed9;");
        CHECK.same("a keyword as NAME", y.letter(0, 0), 'l');
        CHECK.same("words and numbers side by side: luck", y.fighter(0, 3), 3);
        CHECK.same("words and numbers side by side: acts", y.fighter(0, 8), 6);
        CHECK.same("act 5", y.actKind(0, 5), 5);
        CHECK.same("numbers may begin with 0", Check.of("fighter a left speed 007 life 010 plan rest 09;")
                .fighter(0, 1), 7);
        Check.fed(x, "fighter zed right speed 1 life 1 plan hit 1;");
        x.save();
        Check.fed(y, "");
        CHECK.same("an empty text takes all away", y.readText(), 0);
        CHECK.same("an empty text: the usual wheel", y.setting(1), 300);
        TurnWheel z = Check.of("wheel 100;" + ANN + BOB);
        z.play(3);
        z.save();
        z.report();
        CHECK.same("a report of two lines", z.reportByte(0), 'a');
        Check.fed(z, BOB + ANN);
        CHECK.same("a second text", z.readText(), 2);
        CHECK.same("a second text: the time", z.setting(2), 0);
        CHECK.same("a second text: turns", z.setting(3), 0);
        CHECK.same("a second text: the wheel", z.setting(1), 300);
        CHECK.same("a second text: nothing to undo", z.setting(9), 0);
        CHECK.same("a second text: its fighter", z.letter(0, 0), 'b');
        for (int f = 0; f < 2; f++) {
            for (int i = 0; i < 12; i++) {
                CHECK.same("a second text is as a first", z.fighter(f, i), Check.of(BOB + ANN).fighter(f, i));
                CHECK.same("a second text's acts", z.actKind(f, i), Check.of(BOB + ANN).actKind(f, i));
                CHECK.same("a second text's names", z.letter(f, i), Check.of(BOB + ANN).letter(f, i));
            }
        }
        CHECK.same("a second text: gauges", z.fighter(0, 4), 0);
        CHECK.same("a second text: turns of a fighter", z.fighter(0, 9), 0);
        CHECK.same("a second text: the report stays", z.reportByte(0), 'a');
        CHECK.yes("a second text: what is saved stays", z.restore() > 0);
        CHECK.same("a second text: what is saved", z.letter(0, 0), 'a');
    }

    private static void wrongText(String text, int code, int position) {
        TurnWheel x = Check.fed(new TurnWheel(), text);
        CHECK.argument("text '" + text + "'", x::readText);
        CHECK.same("code of '" + text + "'", x.errorCode(), code);
        CHECK.same("position of '" + text + "'", x.errorPosition(), position);
    }

    private static void errorsOfTexts() {
        wrongText("foo;", 1, 0);
        wrongText(";", 1, 0);
        wrongText("wheel 100;;", 1, 10);
        wrongText("wheel", 1, 5);
        wrongText("wheel  ", 1, 7);
        wrongText("wheel 100", 1, 9);
        wrongText("wheel 100\n", 1, 10);
        wrongText("wheel;", 1, 5);
        wrongText("wheel 99;", 2, 6);
        wrongText("wheel 99 A", 2, 6);
        wrongText("wheel 1000;", 1, 6);
        wrongText("wheel 0100;", 1, 6);
        wrongText("wheel 100 (", 1, 10);
        wrongText("wheel 100;wheel 100;", 3, 10);
        wrongText("wheel 100;wheel;", 3, 10);
        wrongText("wheels 100;", 1, 0);
        wrongText("whee 100;", 1, 0);
        wrongText("Wheel 100;", 1, 0);
        wrongText("wheel\t100;", 1, 5);
        wrongText("wheel -100;", 1, 6);
        wrongText("fighter 12 left", 1, 8);
        wrongText("fighter abcdefghi left", 1, 8);
        wrongText("fighter abcdefgh9 left", 1, 16);
        wrongText("fighter a up", 1, 10);
        wrongText("fighter a left life 1", 1, 15);
        wrongText("fighter a left speed x", 1, 21);
        wrongText("fighter a left speed 1 plan", 1, 23);
        wrongText("fighter a left speed 1 life 1 luck plan", 1, 35);
        wrongText("fighter a left speed 1 life 1 hit", 1, 30);
        wrongText("fighter a left speed 1 life 1 plan;", 1, 34);
        wrongText("fighter a left speed 1 life 1 plan hit;", 1, 38);
        wrongText("fighter a left speed 1 life 1 plan hit 1", 1, 40);
        wrongText("fighter a left speed 1 life 1 plan hit 1 kick 1;", 1, 41);
        wrongText("fighter a left speed 1 life 1 plan hit 1 2;", 1, 41);
        wrongText("fighter a left speed 1 life 1 plan hit 1);", 1, 40);
        wrongText(ANN + "fighter ann left", 3, ANN.length() + 8);
        wrongText(ANN + "fighter ann", 3, ANN.length() + 8);
        wrongText(ANN + "fighter anna left; A", 1, ANN.length() + 17);
        wrongText(ANN + BOB + "fighter bob", 3, ANN.length() + BOB.length() + 8);
        wrongText("\u00e9", 1, 0);
        wrongText("  \u0000", 1, 2);
        wrongText("\u00e1nn", 1, 0);
    }

    private static void limitsOfTexts() {
        StringBuilder eight = new StringBuilder();
        for (char c = 'a'; c <= 'h'; c++) {
            eight.append("fighter ").append(c).append(" right speed 1 life 1 plan hit 1;");
        }
        CHECK.same("8 fighters", Check.of(eight.toString()).setting(0), 8);
        CHECK.same("a wheel behind 8 fighters", Check.of(eight + "wheel 999;").setting(1), 999);
        wrongText(eight + "fighter a", 5, eight.length());
        wrongText(eight + "fighter", 5, eight.length());
        wrongText(eight + "fight", 1, eight.length());
        String six = "fighter a left speed 1 life 1 plan hit 1 hit 2 hit 3 hit 4 hit 5 hit 6";
        CHECK.same("6 acts", Check.of(six + ";").fighter(0, 8), 6);
        CHECK.same("act 5 of 6", Check.of(six + ";").actNumber(0, 5), 6);
        wrongText(six + " rest 1;", 5, six.length() + 1);
        wrongText(six + " rest", 5, six.length() + 1);
        wrongText(six + " kick 1;", 1, six.length() + 1);
        wrongText(six + " 7;", 1, six.length() + 1);
        wrongText(six, 1, six.length());
        CHECK.same("a NAME of 8 letters", Check.of("fighter abcdefgh left speed 1 life 1 plan hit 1;")
                .letter(0, 7), 'h');
    }

    private static void edges(String before, int least, int most, String behind) {
        for (int n : new int[] {least, most}) {
            CHECK.yes("'" + before + n + "'", Check.of(before + n + behind).setting(0) <= 1);
        }
        for (int n : new int[] {least - 1, most + 1}) {
            if (n >= 0 && n <= 999) {
                wrongText(before + n + behind, 2, before.length());
            }
        }
    }

    private static void rangesOfTexts() {
        String plan = "fighter a left speed 1 life 1 plan ";
        edges("wheel ", 100, 999, ";");
        edges("fighter a left speed ", 1, 99, " life 1 plan hit 1;");
        edges("fighter a left speed 1 life ", 1, 999, " plan hit 1;");
        edges("fighter a left speed 1 life 1 luck ", 0, 9, " plan hit 1;");
        edges(plan + "hit ", 1, 99, ";");
        edges(plan + "push ", 1, 999, ";");
        edges(plan + "lift ", 1, 999, ";");
        edges(plan + "guard ", 1, 99, ";");
        edges(plan + "again ", 1, 3, ";");
        edges(plan + "speed ", 1, 99, ";");
        edges(plan + "rest ", 1, 99, ";");
        for (int kind = 0; kind < 7; kind++) {
            String word = Model.ACTS.get(kind);
            CHECK.same("kind of " + word, Check.of(plan + word + " 1;").actKind(0, 0), kind);
        }
    }

    private static void textsWithErrorsChangeNothing() {
        TurnWheel x = Check.of("wheel 100;" + ANN + BOB);
        x.play(2);
        x.setWheel(120);
        int time = x.setting(2);
        Check.fed(x, BOB + "wheel 99;");
        CHECK.argument("a wrong second text", x::readText);
        CHECK.same("its buffer is emptied", x.feed(0, 0, 0, 0, 0), 20);
        CHECK.same("it leaves the fighters", x.letter(0, 0), 'a');
        CHECK.same("it leaves the wheel", x.setting(1), 120);
        CHECK.same("it leaves the time", x.setting(2), time);
        CHECK.same("it leaves what can be undone", x.setting(9), 2);
        CHECK.same("undo behind it", x.undo(), 1);
        CHECK.same("undo behind it: the wheel", x.setting(1), 100);
    }

    private static void runningScripts() {
        TurnWheel x = Check.of("wheel 100;" + ANN + BOB);
        CHECK.same("an empty script", Check.script(x, " \n"), 0);
        CHECK.same("push and lift", Check.script(x, "lift ann 50;push ann 20;"), 2);
        CHECK.same("push and lift: the gauge", x.fighter(0, 4), 30);
        CHECK.same("extra", Check.script(x, "extra bob;extra bob;"), 2);
        CHECK.same("extra: turns", x.fighter(1, 6), 2);
        CHECK.same("speed, heal, wheel", Check.script(x, "speed ann 99;heal bob 999;wheel 250;"), 3);
        CHECK.same("speed", x.fighter(0, 1), 99);
        CHECK.same("heal", x.fighter(1, 2), 999);
        CHECK.same("wheel", x.setting(1), 250);
        CHECK.same("act", Check.script(x, "act ann 1 again 3;"), 1);
        CHECK.same("act: kind", x.actKind(0, 1), 4);
        CHECK.same("act: number", x.actNumber(0, 1), 3);
        CHECK.same("act: the other stays", x.actKind(0, 0), 0);
        CHECK.same("turn", Check.script(x, "turn 2;turn 3;"), 2);
        CHECK.same("turn: turns", x.setting(3), 5);
        CHECK.same("the buffer is empty behind a script", x.feed(0, 0, 0, 0, 0), 20);
        TurnWheel y = Check.of(ANN + BOB);
        CHECK.same("repeat", Check.script(y, "repeat 3(lift ann 10;push bob 1;);lift bob 7;"), 7);
        CHECK.same("repeat: ann", y.fighter(0, 4), 30);
        CHECK.same("repeat: bob", y.fighter(1, 4), 7);
        CHECK.same("repeat in repeat", Check.script(y, "repeat 2(lift ann 1;repeat 3(lift bob 1;);lift ann 1;);"), 10);
        CHECK.same("repeat in repeat: ann", y.fighter(0, 4), 34);
        CHECK.same("repeat in repeat: bob", y.fighter(1, 4), 13);
        CHECK.same("an empty repeat", Check.script(y, "repeat 20(repeat 20(););lift bob 1;"), 1);
        CHECK.same("repeat 1", Check.script(y, "repeat 1(lift bob 1;);"), 1);
        CHECK.same("two repeats in one", Check.script(y, "repeat 2(repeat 2(lift bob 1;);repeat 3(lift bob 1;););"), 10);
        TurnWheel z = Check.of("fighter turn left speed 1 life 1 plan hit 1;fighter repeat left speed 1 life 1 plan hit 1;");
        CHECK.same("keywords as names", Check.script(z, "lift turn 5;push repeat 5;"), 2);
        CHECK.same("keywords as names: whom", z.fighter(0, 4), 5);
    }

    private static void scriptsThatEndEarly() {
        String text = "wheel 100;" + ANN + BOB;
        String[] bad = {"turn 0", "turn 100", "push ann 0", "lift ann 0", "speed ann 0", "speed ann 100", "heal ann 0",
            "wheel 99", "act ann 2 hit 1", "act ann 0 hit 0", "act ann 0 hit 100", "act ann 0 again 4",
            "act ann 0 push 0", "act ann 0 rest 100", "act ann 0 speed 999"};
        for (String command : bad) {
            TurnWheel x = Check.of(text);
            CHECK.same("ends at " + command, Check.script(x, "lift bob 5;" + command + ";lift bob 5;"), 1);
            CHECK.same("ends at " + command + ": before", x.fighter(1, 4), 5);
            CHECK.same("ends at " + command + ": no error", x.errorCode(), 0);
            CHECK.same("ends at " + command + ": inside", Check.script(x, "repeat 3(repeat 2(lift bob 5;" + command
                    + ";););lift bob 5;"), 1);
            CHECK.same("ends at " + command + ": as a whole", x.fighter(1, 4), 10);
        }
        TurnWheel x = Check.of(text);
        CHECK.same("ends at false", Check.script(x, "repeat 4(extra ann;lift bob 1;);lift bob 50;"), 6);
        CHECK.same("ends at false: bob", x.fighter(1, 4), 3);
        CHECK.same("ends at false: ann", x.fighter(0, 6), 3);
        CHECK.same("40 commands", Check.script(x, "repeat 20(lift ann 1;lift ann 2;lift ann 4;);"), 40);
        CHECK.same("40 commands: ann", x.fighter(0, 4), 13 * 7 + 1);
        CHECK.same("40 commands behind one another", Check.script(x, "repeat 20(push ann 1;push ann 1;);push ann 1;"), 40);
        TurnWheel y = Check.of("wheel 100;fighter a left speed 50 life 20 plan hit 5;"
                + "fighter b right speed 25 life 12 plan hit 4;");
        CHECK.same("a turn that ends the fight counts", Check.script(y, "turn 99;turn 1;"), 1);
        CHECK.same("push of one who does not live", Check.script(y, "push b 1;"), 0);
        CHECK.same("lift of one who does not live", Check.script(y, "lift b 1;"), 0);
        CHECK.same("extra for one who does not live", Check.script(y, "extra b;"), 0);
        CHECK.same("speed of one who does not live", Check.script(y, "speed b 9;act b 0 rest 1;heal b 3;turn 1;"), 4);
    }

    private static void wrongScript(String text, int code, int position) {
        TurnWheel x = Check.of(ANN + BOB);
        Check.fed(x, text);
        CHECK.argument("script '" + text + "'", x::runScript);
        CHECK.same("code of script '" + text + "'", x.errorCode(), code);
        CHECK.same("position of script '" + text + "'", x.errorPosition(), position);
        CHECK.same("script '" + text + "' does nothing", x.fighter(0, 4), 0);
        CHECK.same("script '" + text + "' can't be undone", x.setting(9), 0);
        CHECK.same("script '" + text + "' empties the buffer", x.feed(0, 0, 0, 0, 0), 20);
    }

    private static void errorsOfScripts() {
        wrongScript("foo;", 1, 0);
        wrongScript(";", 1, 0);
        wrongScript("turn 1", 1, 6);
        wrongScript("lift ann 9;turn", 1, 15);
        wrongScript("turn 1000;", 1, 5);
        wrongScript("turn ann;", 1, 5);
        wrongScript("lift ann 9;push 5;", 1, 16);
        wrongScript("lift ann 9;push zed 5;", 4, 16);
        wrongScript("lift ann 9;push an 5;", 4, 16);
        wrongScript("push zed A", 4, 5);
        wrongScript("push ann;", 1, 8);
        wrongScript("extra ann 1;", 1, 10);
        wrongScript("act ann 1 kick 1;", 1, 10);
        wrongScript("act ann 1 hit;", 1, 13);
        wrongScript("act ann hit 1;", 1, 8);
        wrongScript("act zed 1 hit 1;", 4, 4);
        wrongScript("wheel ann;", 1, 6);
        wrongScript("repeat 0(lift ann 9;);", 2, 7);
        wrongScript("repeat 21(lift ann 9;);", 2, 7);
        wrongScript("repeat (lift ann 9;);", 1, 7);
        wrongScript("repeat 2 lift ann 9;", 1, 9);
        wrongScript("repeat 2(lift ann 9;)", 1, 21);
        wrongScript("repeat 2(lift ann 9);", 1, 19);
        wrongScript("repeat 2(lift ann 9;", 1, 20);
        wrongScript("repeat 2(lift ann 9;;", 1, 20);
        wrongScript("lift ann 9;)", 1, 11);
        wrongScript("repeat 2(););", 1, 11);
        wrongScript("repeat 2(repeat 2(repeat 2(););););", 3, 18);
        wrongScript("repeat 2(repeat 2(repeat", 3, 18);
        wrongScript("lift ann 9;A", 1, 11);
        wrongScript("fighter ann left;", 1, 0);
    }

    private static void limitsOfScripts() {
        String thirty = "heal bob 1;".repeat(30);
        CHECK.same("30 commands", Check.script(Check.of(ANN + BOB), thirty), 30);
        wrongScript(thirty + "turn 1;", 5, thirty.length());
        wrongScript(thirty + "repeat", 5, thirty.length());
        wrongScript(thirty + "foo", 1, thirty.length());
        wrongScript(thirty + ";", 1, thirty.length());
        String two = "repeat 2(repeat 2(";
        String full = two + "heal bob 1;".repeat(28);
        CHECK.same("30 commands, \"repeat\" too", Check.script(Check.of(ANN + BOB), full + "););"), 40);
        wrongScript(full + "turn 1;", 5, full.length());
        wrongScript(full + "repeat 1(", 3, full.length());
        CHECK.same("15 \"repeat\"s", Check.script(Check.of(ANN + BOB), "repeat 2(heal bob 1;);".repeat(15)), 30);
        TurnWheel open = Check.of(ANN + BOB);
        Check.fed(open, "repeat 2(repeat 2(heal bob 1;");
        CHECK.argument("two \"repeat\"s that are not closed", open::runScript);
        CHECK.same("a script behind it", Check.script(open, "repeat 2(repeat 2(heal bob 1;););heal bob 2;"), 5);
        CHECK.same("a script behind it: bob", open.fighter(1, 2), 46);
        CHECK.same("30 \"repeat\"s", Check.script(Check.of(ANN + BOB), "repeat 2(repeat 3(););".repeat(15)), 0);
    }

    private static void errorsTold() {
        TurnWheel x = Check.fed(new TurnWheel(), "wheel 99;");
        CHECK.argument("a wrong text", x::readText);
        CHECK.same("told", x.errorCode(), 2);
        CHECK.argument("a call that is wrong otherwise", () -> x.truncate(5));
        CHECK.same("told still", x.errorCode(), 2);
        CHECK.same("told where", x.errorPosition(), 6);
        x.setWheel(100);
        x.undo();
        CHECK.same("undo leaves the error", x.errorCode(), 2);
        CHECK.same("a good script", x.runScript(), 0);
        CHECK.same("takes the code away", x.errorCode(), 0);
        CHECK.same("takes the position away", x.errorPosition(), -1);
        Check.fed(x, "turn;");
        CHECK.argument("a wrong script", x::runScript);
        CHECK.same("told of a script", x.errorPosition(), 4);
        x.save();
        x.restore();
        CHECK.same("restore leaves the error", x.errorCode(), 1);
        CHECK.same("a good text", x.readText(), 0);
        CHECK.same("takes the code away too", x.errorCode(), 0);
        CHECK.same("takes the position away too", x.errorPosition(), -1);
    }
}
