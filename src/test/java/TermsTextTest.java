import java.util.Arrays;
import java.util.List;

/** Terms 1: the text, its tokens, its numbers and its errors. */
public final class TermsTextTest extends Run {
    private static final String ANN = "fighter ann left speed 10 life 30 luck 2 plan hit 12 guard 5;";
    private static final String BOB = "fighter bob right speed 20 life 40 plan hit 7;";
    private static final String PLAN = "fighter a left speed 1 life 1 plan ";
    private static final String[] TOKENS = {"wheel", "100", ";", "fighter", "ann", "left", "speed", "10", "life", "30",
        "luck", "2", "plan", "hit", "5", "push", "7", ";"};
    private static final List<String> ACTS = List.of("hit", "push", "lift", "guard", "again", "speed", "rest");

    public static void main(String[] args) throws IllegalAccessException {
        Sentences.test(TermsTextTest.class);
    }

    @Sentence("Terms 1: It is read from a buffer of at most 600 bytes.")
    static void aTextOf600Bytes(TurnWheel x) {
        due(text(x, " ".repeat(590) + "wheel 123;"), 0);
        due(x.setting(1), 123);
        wrongText(" ".repeat(591) + "wheel 123", 1, 600);
        wrongText(" ".repeat(599) + "A", 1, 599);
    }

    // ---- the grammar

    @Sentence("Terms 1: text = { statement \";\" }")
    static void aTextWithoutAStatement(TurnWheel x) {
        due(text(x, ""), 0);
        due(x.errorCode(), 0);
        due(text(x, " \n \n"), 0);
        due(x.errorCode(), 0);
    }

    @Sentence("Terms 1: text = { statement \";\" }")
    static void aStatementWithoutItsSemicolon(TurnWheel x) {
        wrongText("wheel 100", 1, 9);
        wrongText("wheel 100 " + ANN, 1, 10);
        wrongText(BOB + BOB.replace("bob", "rob").replace(";", ""), 1, 2 * BOB.length() - 1);
        due(text(x, "wheel 100;"), 0);
    }

    @Sentence("Terms 1: text = { statement \";\" }")
    static void aSemicolonWithoutAStatement(TurnWheel x) {
        wrongText(";", 1, 0);
        wrongText("wheel 100;;", 1, 10);
        wrongText("wheel 100;;" + ANN, 1, 10);
    }

    @Sentence("Terms 1: statement = \"wheel\" N | \"fighter\" NAME ( \"left\" | \"right\" ) \"speed\" N \"life\" N"
            + " [ \"luck\" N ] \"plan\" ACT { ACT }")
    static void aTextThatEndsBehindAnyOfItsTokens(TurnWheel x) {
        for (int n = 1; n <= TOKENS.length; n++) {
            String text = String.join(" ", Arrays.copyOf(TOKENS, n));
            if (TOKENS[n - 1].equals(";")) {
                due(of(text).errorCode(), 0);
            } else {
                wrongText(text, 1, text.length());
            }
        }
    }

    /** What may stand at a place of TOKENS; a number's place is told by "7", a NAME's by "zed". */
    private static List<String> rightAt(int place) {
        switch (place) {
            case 0:
            case 3: return List.of("wheel", "fighter");
            case 2: return List.of(";");
            case 5: return List.of("left", "right");
            case 6: return List.of("speed");
            case 8: return List.of("life");
            case 10: return List.of("luck", "plan");
            case 12: return List.of("plan");
            case 13: return ACTS;
            case 15:
            case 17: return List.of("hit", "push", "lift", "guard", "again", "speed", "rest", ";");
            default: return List.of("7");
        }
    }

    @Sentence("Terms 1: a token (or the end of the text) that the grammar does not allow here")
    static void anotherTokenInAnyPlace(TurnWheel x) {
        List<String> others = List.of("(", ")", ";", "7", "1000", "zed", "abcdefghi", "#", "wheel",
                "fighter", "left", "right", "speed", "life", "luck", "plan", "hit", "push", "lift", "guard", "again", "rest",
                "turn", "repeat");
        for (int n = 0; n < TOKENS.length; n++) {
            String before = String.join(" ", Arrays.copyOf(TOKENS, n)) + " ";
            for (String other : others) {
                boolean isWord = other.charAt(0) >= 'a' && other.length() <= 8;
                if (n == 4 ? !isWord : !rightAt(n).contains(other)) {
                    wrongText(before + other + " ;", 1, before.length());
                }
            }
        }
    }

    @Sentence("Terms 1: [ \"luck\" N ]")
    static void luckInItsPlaceAlone(TurnWheel x) {
        due(text(x, "fighter a left speed 1 life 1 plan hit 1;"), 1);
        due(text(x, "fighter a left speed 1 life 1 luck 9 plan hit 1;"), 1);
        wrongText("fighter a left luck 9 speed 1 life 1 plan hit 1;", 1, 15);
        wrongText("fighter a left speed 1 luck 9 life 1 plan hit 1;", 1, 23);
        wrongText("fighter a left speed 1 life 1 luck 9 luck 9 plan hit 1;", 1, 37);
        wrongText("fighter a left speed 1 life 1 plan hit 1 luck 9;", 1, 41);
    }

    @Sentence("Terms 1: ACT = ( \"hit\" | \"push\" | \"lift\" | \"guard\" | \"again\" | \"speed\" | \"rest\" ) N")
    static void eachWordOfAnAct(TurnWheel x) {
        text(x, PLAN + "hit 1 push 2 lift 3 guard 1 again 2 speed 3;fighter b left speed 1 life 1 plan rest 9;");
        row(i -> x.actKind(0, i), 0, 1, 2, 3, 4, 5, -1);
        row(i -> x.actNumber(0, i), 1, 2, 3, 1, 2, 3, -1);
        due(x.actKind(1, 0), 6);
        due(x.actNumber(1, 0), 9);
        wrongText(PLAN + "kick 1;", 1, 35);
        wrongText(PLAN + "hits 1;", 1, 35);
        wrongText(PLAN + "hi 1;", 1, 35);
    }

    // ---- tokens

    @Sentence("Terms 1: A word is a maximal run of letters a to z, at most 8 of them")
    static void aWordOf8Letters(TurnWheel x) {
        due(text(x, "fighter abcdefgh left speed 1 life 1 plan hit 1;"
                + "fighter abcdefgz left speed 1 life 1 plan hit 1;"), 2);
        due(name(x, 0), "abcdefgh");
        due(name(x, 1), "abcdefgz");
    }

    @Sentence("Terms 1: a longer run of letters and a longer run of digits is an invalid token")
    static void aWordOf9Letters(TurnWheel x) {
        wrongText("fighter abcdefghi left speed 1 life 1 plan hit 1;", 1, 8);
        wrongText("wheel 100; abcdefghijklmnopqrstuvwxyz", 1, 11);
        wrongText("fighter a leftspeed 1 life 1 plan hit 1;", 1, 10);
    }

    @Sentence("Terms 1: A word is a maximal run of letters a to z")
    static void aWordIsNotItsBeginning(TurnWheel x) {
        wrongText("wheels 100;", 1, 0);
        wrongText("whee l100;", 1, 0);
        wrongText("fighter a leftover 1", 1, 10);
        wrongText(PLAN + "hithit 1;", 1, 35);
        due(text(x, "fighter lefta left speed 1 life 1 plan hit 1;"), 1);
    }

    @Sentence("Terms 1: A word is a maximal run of letters a to z")
    static void whichBytesAreLetters(TurnWheel x) {
        for (int b = 0; b < 256; b++) {
            String text = "fighter " + (char) b + " left speed 1 life 1 plan hit 1;";
            if (b >= 'a' && b <= 'z') {
                due(of(text).letter(0, 0), b);
            } else if (b == ' ' || b == '\n') {
                wrongText(text, 1, 15);
            } else {
                wrongText(text, 1, 8);
            }
        }
    }

    @Sentence("Terms 1: a NAME is any word")
    static void keywordsAsNames(TurnWheel x) {
        String[] names = {"wheel", "fighter", "left", "right", "speed", "life", "luck", "plan", "hit", "push", "lift",
            "guard", "again", "rest", "turn", "repeat"};
        for (String name : names) {
            due(name(of("fighter " + name + " left speed 1 life 1 plan hit 1;"), 0), name);
        }
        due(text(x, "fighter left left speed 1 life 1 plan hit 1;fighter fighter right speed 1 life 1 plan hit 1;"), 2);
    }

    @Sentence("Terms 1: A number N is a maximal run of digits, at most 3 of them")
    static void aNumberOf3Digits(TurnWheel x) {
        text(x, "wheel 999;fighter a left speed 007 life 010 luck 000 plan push 098;");
        due(x.setting(1), 999);
        due(x.fighter(0, 1), 7);
        due(x.fighter(0, 2), 10);
        due(x.fighter(0, 3), 0);
        due(x.actNumber(0, 0), 98);
    }

    @Sentence("Terms 1: a longer run of letters and a longer run of digits is an invalid token")
    static void aNumberOf4Digits(TurnWheel x) {
        wrongText("wheel 1000;", 1, 6);
        wrongText("wheel 0100;", 1, 6);
        wrongText("fighter a left speed 0001 life 1 plan hit 1;", 1, 21);
        wrongText("wheel 100;fighter a left speed 4294967297 life 1 plan hit 1;", 1, 31);
    }

    @Sentence("Terms 1: A number N is a maximal run of digits")
    static void whichBytesAreDigits(TurnWheel x) {
        for (int b = 0; b < 256; b++) {
            String text = "wheel 10" + (char) b + ";";
            if (b >= '0' && b <= '9') {
                due(of(text).setting(1), 100 + b - '0');
            } else {
                wrongText(text, 2, 6);
            }
        }
        wrongText("wheel 1 00;", 2, 6);
    }

    @Sentence("Terms 1: The other tokens are the single characters ; ( and )")
    static void signsSideBySide(TurnWheel x) {
        text(x, ANN + BOB);
        due(script(x, "repeat 2(repeat 2(););lift ann 1;"), 1);
        wrongScript(x, "repeat 2((", 1, 9);
        wrongScript(x, "repeat 2(lift ann 1;));", 1, 21);
        wrongScript(x, "lift ann 1;;", 1, 11);
    }

    @Sentence("Terms 1: Spaces (byte 32) and line feeds (byte 10) may stand before, between and behind tokens")
    static void blanksWhereverTheyMayStand(TurnWheel x) {
        String text = "wheel 150;fighter a left speed 3 life 4 luck 5 plan hit 6;";
        for (String blank : new String[] {" ", "\n", "  ", "\n\n", " \n \n "}) {
            TurnWheel y = of(blank + text.replace(" ", blank).replace(";", blank + ";" + blank) + blank);
            due(all(y), all(of(text)));
        }
    }

    @Sentence("Terms 1: Every other byte, a longer run of letters and a longer run of digits is an invalid token.")
    static void everyOtherByteBetweenTokens(TurnWheel x) {
        for (int b = 0; b < 256; b++) {
            if (b == ' ' || b == '\n') {
                due(of((char) b + "wheel 100;" + (char) b).errorCode(), 0);
            } else {
                wrongText("wheel 100;" + (char) b, 1, 10);
                wrongText((b >= 'a' && b <= 'z' ? "4" : "") + (char) b + "wheel 100;", 1, 0);
            }
        }
    }

    @Sentence("Terms 1: a word and a number side by side need nothing between them")
    static void wordsAndNumbersSideBySide(TurnWheel x) {
        String text = "wheel150;fighter a left speed3life4luck5plan hit6push7;";
        due(text(x, text), 1);
        due(all(x), all(of("wheel 150;fighter a left speed 3 life 4 luck 5 plan hit 6 push 7;")));
        wrongText("fighter a1left speed 1", 1, 9);
    }

    // ---- numbers of a text

    /** The numbers just out of a range are refused where they stand. */
    private static void outOf(int least, int most, String before, String behind) {
        for (int n : new int[] {least - 1, most + 1}) {
            if (n >= 0 && n <= 999) {
                wrongText(before + n + behind, 2, before.length());
            }
        }
    }

    @Sentence("Terms 1: \"wheel\" tells what a turn takes of a gauge (100 to 999; 300 without it)")
    static void theWheel(TurnWheel x) {
        due(of("wheel 100;").setting(1), 100);
        due(of("wheel 999;").setting(1), 999);
        outOf(100, 999, "wheel ", ";");
        wrongText("wheel 0;", 2, 6);
        wrongText("wheel 000;", 2, 6);
        text(x, "wheel 100;");
        text(x, ANN);
        due(x.setting(1), 300);
    }

    @Sentence("Terms 1: it may stand once, anywhere")
    static void theWheelAnywhere(TurnWheel x) {
        due(of("wheel 150;" + ANN + BOB).setting(1), 150);
        due(of(ANN + "wheel 150;" + BOB).setting(1), 150);
        due(of(ANN + BOB + "wheel 150;").setting(1), 150);
    }

    @Sentence("Terms 1: \"fighter\" tells a fighter, at most 8, numbered from 0, all of different names")
    static void eightFighters(TurnWheel x) {
        due(text(x, fighters(8) + "wheel 999;"), 8);
        for (int i = 0; i < 8; i++) {
            due(name(x, i), String.valueOf((char) ('a' + i)));
        }
    }

    @Sentence("Terms 1: the plan: 1 to 6 acts, numbered from 0")
    static void eightFightersOfSixActs(TurnWheel x) {
        StringBuilder text = new StringBuilder("wheel 999;");
        for (int i = 1; i <= 8; i++) {
            text.append("fighter ").append("x".repeat(i)).append(" right speed").append(i).append("life").append(i)
                    .append("luck").append(i).append("plan hit1push2lift3guard4again3rest").append(i).append(";");
        }
        due(text(x, text.toString()), 8);
        for (int i = 1; i <= 8; i++) {
            int f = i - 1;
            due(name(x, f), "x".repeat(i));
            row(what -> x.fighter(f, what), 1, f + 1, f + 1, f + 1, 0, 0, 0, 0, 6);
            row(act -> x.actKind(f, act), 0, 1, 2, 3, 4, 6, -1);
            row(act -> x.actNumber(f, act), 1, 2, 3, 4, 3, f + 1, -1);
        }
    }

    @Sentence("Terms 1: the side (left 0, right 1)")
    static void theSides(TurnWheel x) {
        text(x, ANN + BOB);
        due(x.fighter(0, 0), 0);
        due(x.fighter(1, 0), 1);
    }

    @Sentence("Terms 1: the speed (1 to 99)")
    static void theSpeed(TurnWheel x) {
        due(of("fighter a left speed 1 life 1 plan hit 1;").fighter(0, 1), 1);
        due(of("fighter a left speed 99 life 1 plan hit 1;").fighter(0, 1), 99);
        outOf(1, 99, "fighter a left speed ", " life 1 plan hit 1;");
        wrongText("fighter a left speed 999", 2, 21);
    }

    @Sentence("Terms 1: the life (1 to 999)")
    static void theLife(TurnWheel x) {
        due(of("fighter a left speed 1 life 1 plan hit 1;").fighter(0, 2), 1);
        due(of("fighter a left speed 1 life 999 plan hit 1;").fighter(0, 2), 999);
        outOf(1, 999, "fighter a left speed 1 life ", " plan hit 1;");
    }

    @Sentence("Terms 1: the luck (0 to 9; 0 without it)")
    static void theLuck(TurnWheel x) {
        due(of("fighter a left speed 1 life 1 luck 0 plan hit 1;").fighter(0, 3), 0);
        due(of("fighter a left speed 1 life 1 luck 9 plan hit 1;").fighter(0, 3), 9);
        outOf(0, 9, "fighter a left speed 1 life 1 luck ", " plan hit 1;");
        text(x, "fighter a left speed 1 life 1 luck 9 plan hit 1;fighter b left speed 1 life 1 plan hit 1;");
        due(x.fighter(1, 3), 0);
        text(x, "fighter a left speed 1 life 1 plan hit 1;");
        due(x.fighter(0, 3), 0);
    }

    @Sentence("Terms 1: the plan: 1 to 6 acts, numbered from 0")
    static void aPlanOf1To6Acts(TurnWheel x) {
        due(text(x, PLAN + "hit 9;"), 1);
        due(x.fighter(0, 8), 1);
        due(x.actNumber(0, 0), 9);
        due(text(x, PLAN + "hit 1 hit 2 hit 3 hit 4 hit 5 rest 6;"), 1);
        due(x.fighter(0, 8), 6);
        row(i -> x.actNumber(0, i), 1, 2, 3, 4, 5, 6, -1);
        wrongText(PLAN + ";", 1, 35);
    }

    private static void actRange(String word, int most) {
        due(of(PLAN + word + " 1;").actNumber(0, 0), 1);
        due(of(PLAN + word + " " + most + ";").actNumber(0, 0), most);
        outOf(1, most, PLAN + word + " ", ";");
        outOf(1, most, PLAN + "rest 1 " + word + " ", " rest 1;");
    }

    @Sentence("Terms 1: The N of an act is 1 to 99 of hit (kind 0)")
    static void numbersOfHit(TurnWheel x) {
        actRange("hit", 99);
    }

    @Sentence("Terms 1: 1 to 999 of push (1) and of lift (2)")
    static void numbersOfPushAndLift(TurnWheel x) {
        actRange("push", 999);
        actRange("lift", 999);
    }

    @Sentence("Terms 1: 1 to 99 of guard (3)")
    static void numbersOfGuard(TurnWheel x) {
        actRange("guard", 99);
    }

    @Sentence("Terms 1: 1 to 3 of again (4)")
    static void numbersOfAgain(TurnWheel x) {
        actRange("again", 3);
    }

    @Sentence("Terms 1: 1 to 99 of speed (5) and of rest (6)")
    static void numbersOfSpeedAndRest(TurnWheel x) {
        actRange("speed", 99);
        actRange("rest", 99);
    }

    // ---- errors

    @Sentence("Terms 1: the index of the first byte of a token")
    static void whereAnErrorIs(TurnWheel x) {
        wrongText("  \n wheel   \n 99;", 2, 14);
        wrongText(ANN + "\n\n fighter ann", 3, ANN.length() + 11);
        wrongText("wheel 100;\nabcdefghijkl", 1, 11);
        wrongText("wheel 100;\n0000", 1, 11);
    }

    @Sentence("Terms 1: or the length of the text if it ends too early")
    static void whereAnErrorAtTheEndIs(TurnWheel x) {
        wrongText("wheel", 1, 5);
        wrongText("wheel ", 1, 6);
        wrongText("wheel 100 \n ", 1, 12);
        wrongText("fighter", 1, 7);
        wrongText(PLAN + "hit 1", 1, 40);
        wrongText(PLAN + "hit 1 hit 1 hit 1 hit 1 hit 1 hit 1", 1, 70);
    }

    @Sentence("Terms 1: Tokens are checked from left to right and the first error is reported")
    static void theFirstErrorOfSeveral(TurnWheel x) {
        wrongText("wheel 99 A", 2, 6);
        wrongText("wheel 99", 2, 6);
        wrongText("wheel 99;wheel 99;", 2, 6);
        wrongText("wheel A 99", 1, 6);
        wrongText("fighter a left speed 0 life 0 luck 99", 2, 21);
        wrongText("fighter a left speed 1 life 0 luck 99", 2, 28);
        wrongText(ANN + "fighter ann left speed 0", 3, ANN.length() + 8);
        wrongText(fighters(8) + "fighter a left speed 0", 5, fighters(8).length());
        wrongText("wheel 100;wheel 99;", 3, 10);
        wrongText(PLAN + "hit 0 hit 1 hit 1 hit 1 hit 1 hit 1 hit 1;", 2, 39);
    }

    @Sentence("Terms 1: if several codes apply at one token, the lowest one")
    static void theLowestCodeOfSeveral(TurnWheel x) {
        String six = PLAN + "hit 1 hit 1 hit 1 hit 1 hit 1 hit 1 ";
        wrongText(six + "kick 1;", 1, six.length());
        wrongText(six + "luck 1;", 1, six.length());
        wrongText(six + "hithithit 1;", 1, six.length());
        wrongText(fighters(8) + "fight a left", 1, fighters(8).length());
        wrongText(ANN + "fighter annannann left", 1, ANN.length() + 8);
        text(x, ANN + BOB);
        String open = "repeat 2(repeat 2(" + "heal bob 1;".repeat(28);
        wrongScript(x, open + "repeat 1(", 3, open.length());
        wrongScript(x, open + "heal bob 1;", 5, open.length());
        wrongScript(x, open + "heals bob 1;", 1, open.length());
    }

    @Sentence("Terms 1: 1: an invalid token, or a token (or the end of the text) that the grammar does not allow here.")
    static void code1(TurnWheel x) {
        wrongText("wheel #;", 1, 6);
        wrongText("wheel (;", 1, 6);
        wrongText("wheel", 1, 5);
        wrongText("wheel -100;", 1, 6);
    }

    @Sentence("Terms 1: 2: a number out of its range.")
    static void code2(TurnWheel x) {
        wrongText(ANN + "wheel 99;", 2, ANN.length() + 6);
        wrongText(PLAN + "again 4;", 2, 41);
    }

    @Sentence("Terms 1: 3: the NAME of another fighter; the first word of a second \"wheel\".")
    static void theNameOfAnotherFighter(TurnWheel x) {
        wrongText(ANN + "fighter ann right speed 1 life 1 plan hit 1;", 3, ANN.length() + 8);
        wrongText(ANN + BOB + "fighter bob", 3, ANN.length() + BOB.length() + 8);
        wrongText(fighters(7) + "fighter a", 3, fighters(7).length() + 8);
        wrongText(fighters(7) + "fighter g", 3, fighters(7).length() + 8);
        due(text(x, ANN + "fighter an right speed 1 life 1 plan hit 1;fighter anna right speed 1 life 1 plan hit 1;"
                + "fighter nna right speed 1 life 1 plan hit 1;"), 4);
        due(text(x, ANN), 1);
    }

    @Sentence("Terms 1: the first word of a second \"wheel\"")
    static void aSecondWheel(TurnWheel x) {
        wrongText("wheel 100;wheel 100;", 3, 10);
        wrongText("wheel 300;wheel", 3, 10);
        wrongText("wheel 100;" + ANN + " wheel 200;", 3, 10 + ANN.length() + 1);
        due(text(x, "wheel 100;"), 0);
        due(text(x, "wheel 200;"), 0);
    }

    @Sentence("Terms 1: 5: the first word of a 9th fighter; the first word of a 7th act of a plan.")
    static void aNinthFighter(TurnWheel x) {
        wrongText(fighters(9), 5, fighters(8).length());
        wrongText(fighters(8) + "fighter", 5, fighters(8).length());
        wrongText(fighters(8) + " fighter a", 5, fighters(8).length() + 1);
        due(text(x, fighters(7)), 7);
    }

    @Sentence("Terms 1: the first word of a 7th act of a plan")
    static void aSeventhAct(TurnWheel x) {
        String six = PLAN + "hit 1 hit 1 hit 1 hit 1 hit 1 hit 1 ";
        for (String word : ACTS) {
            wrongText(six + word + " 1;", 5, six.length());
            wrongText(six + word, 5, six.length());
        }
        wrongText(six + "7;", 1, six.length());
        due(text(x, six + ";fighter b left speed 1 life 1 plan hit 1 hit 1 hit 1 hit 1 hit 1 hit 1;"), 2);
    }
}
