import java.util.Arrays;
import java.util.List;
import java.util.function.Consumer;

/** Terms 3: scripts, how they run, where they end and their errors. */
public final class TermsScriptsTest extends Run {
    private static final String TWO = "wheel 100;fighter ann left speed 10 life 30 luck 2 plan hit 12 guard 5;"
            + "fighter bob right speed 20 life 40 plan hit 7;";
    private static final String[] TOKENS = {"turn", "1", ";", "push", "ann", "2", ";", "lift", "ann", "3", ";", "extra",
        "bob", ";", "speed", "ann", "4", ";", "heal", "ann", "5", ";", "wheel", "300", ";", "act", "ann", "1", "hit",
        "6", ";", "repeat", "2", "(", "heal", "ann", "7", ";", ")", ";"};
    /** C a command, D a command or ")", N a number, F a NAME, A an act. */
    private static final String PLACES = "CN;CFN;CFN;CF;CFN;CFN;CN;CFNAN;CN(DFN;D;";
    private static final List<String> COMMANDS = List.of("turn", "push", "lift", "extra", "speed", "heal", "wheel",
            "act", "repeat");
    private static final List<String> ACTS = List.of("hit", "push", "lift", "guard", "again", "speed", "rest");
    private static final String[] REFUSED = {"turn 0", "turn 100", "push ann 0", "lift ann 0", "speed ann 0",
        "speed ann 100", "heal ann 0", "wheel 99", "wheel 0", "act ann 2 hit 1", "act ann 999 hit 1", "act ann 0 hit 0",
        "act ann 0 hit 100", "act ann 0 push 0", "act ann 0 lift 0", "act ann 0 guard 100", "act ann 0 again 0",
        "act ann 0 again 4", "act ann 0 speed 100", "act ann 0 rest 100"};

    public static void main(String[] args) throws IllegalAccessException {
        Sentences.test(TermsScriptsTest.class);
    }

    private static void wrong(String text, int code, int position) {
        wrongScript(of(TWO), text, code, position);
    }

    // ---- the grammar

    @Sentence("Terms 3: script = { command \";\" }")
    static void aScriptWithoutACommand(TurnWheel x) {
        due(script(x, ""), 0);
        text(x, TWO);
        due(script(x, ""), 0);
        due(script(x, " \n "), 0);
        due(x.errorCode(), 0);
    }

    @Sentence("Terms 3: script = { command \";\" }")
    static void semicolonsOfAScript(TurnWheel x) {
        wrong(";", 1, 0);
        wrong("turn 1", 1, 6);
        wrong("turn 1 turn 1;", 1, 7);
        wrong("turn 1;;", 1, 7);
        wrong("repeat 2(;);", 1, 9);
        wrong("repeat 2(turn 1);", 1, 15);
        wrong("repeat 2(turn 1;;);", 1, 16);
        wrong("repeat 2(turn 1;)", 1, 17);
        wrong("repeat 2(turn 1;) turn 1;", 1, 18);
    }

    @Sentence("Terms 3: command = \"turn\" N | \"push\" NAME N | \"lift\" NAME N | \"extra\" NAME | \"speed\" NAME N |"
            + " \"heal\" NAME N | \"wheel\" N | \"act\" NAME N ACT | \"repeat\" N \"(\" script \")\"")
    static void aScriptThatEndsBehindAnyOfItsTokens(TurnWheel x) {
        for (int n = 1; n <= TOKENS.length; n++) {
            String text = String.join(" ", Arrays.copyOf(TOKENS, n));
            if (TOKENS[n - 1].equals(";") && (n <= 31 || n == TOKENS.length)) {
                due(script(of(TWO), text) > 0, true);
            } else {
                wrong(text, 1, text.length());
            }
        }
    }

    private static boolean isRight(char place, String token) {
        switch (place) {
            case 'C': return COMMANDS.contains(token);
            case 'D': return COMMANDS.contains(token) || token.equals(")");
            case 'A': return ACTS.contains(token);
            case 'N': return token.equals("7");
            case 'F': return token.charAt(0) >= 'a' && token.length() <= 8;
            default: return token.equals(String.valueOf(place));
        }
    }

    @Sentence("Terms 3: command = \"turn\" N | \"push\" NAME N")
    static void anotherTokenInAnyPlaceOfAScript(TurnWheel x) {
        List<String> others = List.of("(", ")", ";", "7", "1000", "ann", "zed", "abcdefghi", "turn", "push",
                "extra", "wheel", "act", "repeat", "hit", "rest", "fighter", "A");
        due(PLACES.length(), TOKENS.length);
        for (int n = 0; n < TOKENS.length; n++) {
            String before = String.join(" ", Arrays.copyOf(TOKENS, n)) + " ";
            for (String other : others) {
                if (!isRight(PLACES.charAt(n), other)) {
                    wrong(before + other + " ;", 1, before.length());
                }
            }
        }
    }

    @Sentence("Terms 3: \"repeat\" N \"(\" script \")\"")
    static void aRepeatOfNothing(TurnWheel x) {
        text(x, TWO);
        due(script(x, "repeat 20();"), 0);
        due(script(x, "repeat 20(repeat 20(););lift ann 1;repeat 1();"), 1);
        due(x.fighter(0, 4), 1);
        wrong("repeat 2);", 1, 8);
        wrong("repeat 2(););", 1, 11);
        wrong("lift ann 1;)", 1, 11);
    }

    @Sentence("Terms 3: The tokens are those of a text.")
    static void tokensOfAScript(TurnWheel x) {
        text(x, TWO);
        due(script(x, "\n repeat2 ( lift\nann5 ; )\n;lift ann 07;"), 3);
        due(x.fighter(0, 4), 17);
        due(script(x, " ".repeat(589) + "lift ann 1;"), 1);
        due(x.fighter(0, 4), 18);
        wrong("lift ann 1;#", 1, 11);
        wrong("lift ann\t1;", 1, 8);
        wrong("lift ann 0001;", 1, 9);
        wrong("lift annannann 1;", 1, 5);
        wrong("lifts ann 1;", 1, 0);
        wrong("Lift ann 1;", 1, 0);
    }

    @Sentence("Terms 1: a NAME is any word")
    static void keywordsAsNamesInAScript(TurnWheel x) {
        text(x, "fighter turn left speed 1 life 1 plan hit 1;fighter repeat right speed 1 life 1 plan hit 1;");
        due(script(x, "lift turn 5;lift repeat 6;"), 2);
        row(f -> x.fighter(f, 4), 5, 6);
    }

    // ---- what commands do

    /** A script does to a fight what the call does to another. */
    private static void likeTheCall(String command, Consumer<TurnWheel> call) {
        TurnWheel x = of(TWO);
        TurnWheel y = of(TWO);
        script(x, "lift bob 30;lift ann 40;extra bob;");
        y.lift(1, 30);
        y.lift(0, 40);
        y.extra(1);
        due(fight(x), fight(y));
        due(script(x, command + ";"), 1);
        call.accept(y);
        due(fight(x), fight(y));
    }

    @Sentence("Terms 3: The commands are as the methods play(), push(), lift(), extra(), setSpeed(), heal(), setWheel()"
            + " and setAct()")
    static void theCommandsAreAsTheMethods(TurnWheel x) {
        likeTheCall("turn 1", y -> y.play(1));
        likeTheCall("turn 99", y -> y.play(99));
        likeTheCall("push bob 1", y -> y.push(1, 1));
        likeTheCall("push bob 999", y -> y.push(1, 999));
        likeTheCall("lift ann 999", y -> y.lift(0, 999));
        likeTheCall("extra bob", y -> y.extra(1));
        likeTheCall("speed bob 1", y -> y.setSpeed(1, 1));
        likeTheCall("speed ann 99", y -> y.setSpeed(0, 99));
        likeTheCall("heal ann 1", y -> y.heal(0, 1));
        likeTheCall("heal ann 999", y -> y.heal(0, 999));
        likeTheCall("wheel 100", y -> y.setWheel(100));
        likeTheCall("wheel 999", y -> y.setWheel(999));
        for (int kind = 0; kind < 7; kind++) {
            int k = kind;
            likeTheCall("act ann 1 " + ACTS.get(kind) + " 3", y -> y.setAct(0, 1, k, 3));
        }
    }

    @Sentence("Terms 3: numbers N (of an ACT, too) are 0 to 999")
    static void numbersOfCommands(TurnWheel x) {
        for (String command : List.of("turn ", "push ann ", "lift ann ", "speed ann ", "heal ann ", "wheel ",
                "act ann 0 hit ", "act ann 0 again ")) {
            TurnWheel y = of(TWO);
            due(script(y, command + "0;"), 0);
            due(y.errorCode(), 0);
            due(script(y, command + "999;") <= 1, true);
            due(y.errorCode(), 0);
            wrong(command + "1000;", 1, command.length());
        }
        text(x, TWO);
        due(script(x, "act ann 999 hit 1;"), 0);
        due(x.errorCode(), 0);
    }

    @Sentence("Terms 3: of \"repeat\" 1 to 20")
    static void numbersOfRepeat(TurnWheel x) {
        text(x, TWO);
        due(script(x, "repeat 1(lift ann 1;);"), 1);
        due(script(x, "repeat 20(lift ann 1;);"), 20);
        due(x.fighter(0, 4), 21);
        wrong("repeat 0(lift ann 1;);", 2, 7);
        wrong("repeat 21(lift ann 1;);", 2, 7);
        wrong("repeat 999(lift ann 1;);", 2, 7);
        wrong("repeat 2(repeat 0(lift ann 1;););", 2, 16);
        wrong("repeat 21 lift ann", 2, 7);
    }

    @Sentence("Terms 3: \"repeat\" does the commands in parentheses several times.")
    static void repeatsInRepeats(TurnWheel x) {
        text(x, TWO);
        due(script(x, "repeat 3(lift ann 10;lift bob 1;);lift bob 7;"), 7);
        row(f -> x.fighter(f, 4), 30, 10);
        due(script(x, "repeat 2(lift ann 1;repeat 3(lift bob 1;);lift ann 1;);"), 10);
        row(f -> x.fighter(f, 4), 34, 16);
        due(script(x, "repeat 2(repeat 2(lift ann 1;);repeat 3(lift bob 1;););repeat 2(lift ann 5;);"), 12);
        row(f -> x.fighter(f, 4), 48, 22);
    }

    // ---- where a script ends

    @Sentence("Terms 3: A script ends as a whole at a command whose method would throw an exception or return false;"
            + " the commands before stay done, and it is not counted.")
    static void aCommandThatIsRefused(TurnWheel x) {
        for (String command : REFUSED) {
            TurnWheel y = of(TWO);
            due(script(y, "lift bob 5;" + command + ";lift bob 50;"), 1);
            due(y.fighter(1, 4), 5);
            due(y.errorCode(), 0);
            due(y.errorPosition(), -1);
            due(y.setting(9), 1);
        }
    }

    @Sentence("Terms 3: A script ends as a whole at a command whose method would throw an exception")
    static void aCommandThatIsRefusedWithinRepeats(TurnWheel x) {
        for (String command : REFUSED) {
            TurnWheel y = of(TWO);
            due(script(y, "repeat 3(repeat 2(lift bob 5;" + command + ";);lift bob 50;);lift bob 50;"), 1);
            due(y.fighter(1, 4), 5);
        }
    }

    @Sentence("Terms 3: or return false")
    static void aFourthExtraTurnEndsAScript(TurnWheel x) {
        text(x, TWO);
        due(script(x, "repeat 4(extra ann;lift bob 1;);lift bob 50;"), 6);
        due(x.fighter(0, 6), 3);
        due(x.fighter(1, 4), 3);
    }

    @Sentence("Terms 3: whose method would throw an exception")
    static void commandsForOneWhoDoesNotLive(TurnWheel x) {
        text(x, DUEL);
        due(script(x, "turn 99;turn 1;heal a 1;"), 1);
        due(x.setting(3), 4);
        due(script(x, "push b 1;heal a 1;"), 0);
        due(script(x, "lift b 1;heal a 1;"), 0);
        due(script(x, "extra b;heal a 1;"), 0);
        due(x.fighter(0, 2), 16);
        due(script(x, "speed b 9;act b 0 rest 1;heal b 3;push b 1;lift b 1;extra b;turn 1;"), 7);
    }

    @Sentence("Terms 3: whose method would throw an exception")
    static void aTurnBeyondTheBoundEndsAScript(TurnWheel x) {
        text(x, "wheel 100;fighter a left speed 50 life 9 plan guard 5;fighter b right speed 50 life 9 plan guard 5;");
        for (int n = 0; n < 3; n++) {
            due(script(x, "repeat 20(turn 99;turn 66;);"), 40);
        }
        due(x.setting(3), 9900);
        due(script(x, "lift a 1;turn 99;turn 1;turn 1;"), 2);
        due(x.setting(3), 9999);
    }

    @Sentence("Terms 3: It also ends early when 40 commands (\"repeat\" not counted) were done.")
    static void aScriptOf40Commands(TurnWheel x) {
        text(x, TWO);
        due(script(x, "repeat 20(lift ann 1;lift ann 2;);"), 40);
        due(x.fighter(0, 4), 60);
        due(script(x, "repeat 20(lift bob 1;lift bob 2;);lift bob 50;"), 40);
        due(x.fighter(1, 4), 60);
    }

    @Sentence("Terms 3: It also ends early when 40 commands")
    static void aScriptOfMoreThan40Commands(TurnWheel x) {
        text(x, TWO);
        due(script(x, "repeat 13(lift ann 1;lift ann 2;lift ann 4;);lift ann 100;lift ann 200;"), 40);
        due(x.fighter(0, 4), 191);
        due(script(x, "repeat 20(lift bob 1;lift bob 2;lift bob 4;);"), 40);
        due(x.fighter(1, 4), 92);
        due(script(x, "repeat 20(repeat 20(push bob 1;););push bob 9;"), 40);
        due(x.fighter(1, 4), 52);
        due(x.errorCode(), 0);
    }

    // ---- errors

    @Sentence("Terms 3: Errors: 1 and 2 as above")
    static void whereErrorsOfAScriptAre(TurnWheel x) {
        wrong("turn", 1, 4);
        wrong("turn 1 \n", 1, 8);
        wrong("lift ann 9; turn  ;", 1, 18);
        wrong("fighter ann left;", 1, 0);
        wrong("act ann 1 kick 1;", 1, 10);
        wrong("lift ann 9;repeat 30 (", 2, 18);
        wrong("repeat 0(push zed 1;A", 2, 7);
        wrong("push zed 1;repeat 0", 4, 5);
    }

    @Sentence("Terms 3: 3: the first word of a \"repeat\" within two others")
    static void aThirdRepeat(TurnWheel x) {
        wrong("repeat 2(repeat 2(repeat 2(););););", 3, 18);
        wrong("repeat 2(repeat 2(lift ann 1;  repeat", 3, 31);
        wrong("repeat 2(repeat 2();repeat 2(lift ann 1;repeat 0", 3, 40);
        text(x, TWO);
        due(script(x, "repeat 2(repeat 2(lift ann 1;);repeat 2(););repeat 1(repeat 1(lift ann 1;););"), 5);
        due(x.fighter(0, 4), 5);
    }

    @Sentence("Terms 3: 4: a NAME that no fighter has")
    static void aNameThatNoFighterHas(TurnWheel x) {
        for (String command : List.of("push", "lift", "extra", "speed", "heal", "act")) {
            wrong(command + " zed 1;", 4, command.length() + 1);
            wrong("lift ann 1;" + command + " an 1;", 4, command.length() + 12);
            wrong(command + " anna", 4, command.length() + 1);
        }
        wrongScript(x, "extra ann;", 4, 6);
        text(x, "fighter zed left speed 1 life 1 plan hit 1;");
        wrongScript(x, "extra ann;", 4, 6);
        due(script(x, "extra zed;"), 1);
    }

    @Sentence("Terms 3: 5: the first word of a 31st command of the text")
    static void aThirtyFirstCommand(TurnWheel x) {
        String thirty = "heal bob 1;".repeat(30);
        text(x, TWO);
        due(script(x, thirty), 30);
        due(x.fighter(1, 2), 70);
        for (String command : COMMANDS) {
            wrong(thirty + command, 5, thirty.length());
        }
        wrong(thirty + " heal bob 1;", 5, thirty.length() + 1);
        wrong(thirty + ";", 1, thirty.length());
        wrong(thirty + "heals", 1, thirty.length());
    }

    @Sentence("Terms 3: (\"repeat\" counts as one, too)")
    static void repeatsCountAsCommandsOfTheText(TurnWheel x) {
        text(x, TWO);
        due(script(x, "repeat 2(heal bob 1;);".repeat(15)), 30);
        due(x.fighter(1, 2), 70);
        due(script(x, "repeat 2(repeat 3(););".repeat(15)), 0);
        String full = "repeat 2(" + "heal bob 1;".repeat(29);
        due(script(x, full + ");"), 40);
        wrong(full + "heal bob 1;);", 5, full.length());
        wrong(full + ");heal bob 1;", 5, full.length() + 2);
        wrong(full + "repeat 1(););", 5, full.length());
        wrong("repeat 1();".repeat(30) + "repeat", 5, 330);
    }
}
