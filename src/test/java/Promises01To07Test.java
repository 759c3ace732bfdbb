/** Promises 1 to 7: a new object, the buffer, reading, errors; and the constant. */
public final class Promises01To07Test extends Run {
    private static final String ANN = "fighter ann left speed 10 life 30 luck 2 plan hit 12 guard 5;";
    private static final String BOB = "fighter bob right speed 20 life 40 plan hit 7;";

    public static void main(String[] args) throws IllegalAccessException {
        Sentences.test(Promises01To07Test.class);
    }

    private static int spaces(TurnWheel x) {
        return x.feed(SPACES, SPACES, SPACES, SPACES, SPACES);
    }

    /** How many bytes are in the buffer; its length is so tested from above. */
    private static void buffered(TurnWheel x, int bytes) {
        argument(() -> x.truncate(bytes + 1));
        due(x.truncate(bytes), bytes);
    }

    @Sentence("Behind the terms: The constants: `NONE = -1`: There is no such value.")
    static void none(TurnWheel x) {
        due(TurnWheel.NONE, -1);
    }

    @Sentence("What it is: An object is used for at most 512 calls after it has been made")
    static void anObjectOf512Calls(TurnWheel x) {
        text(x, DUEL.replace("hit", "guard"));
        for (int n = 1; n <= 83; n++) {
            due(x.play(9), 9);
            due(x.setting(3), 9 * n);
            due(x.runScript(), 0);
            due(x.undo(), Math.min(n, 5));
            due(spaces(x), 20);
            due(x.truncate(0), 0);
        }
        due(x.turnsOf(0, 200) + x.turnsOf(1, 200), 200);
    }

    // ---- 1

    @Sentence("Promise 1: Creates a state as if an empty text was read, with an empty buffer.")
    static void aNewObjectIsAsBehindAnEmptyText(TurnWheel x) {
        row(x::setting, 0, 300, 0, 0, 0, 0, 0, -1, 1, 0);
        TurnWheel y = of(ANN + BOB);
        text(y, "");
        due(all(x), all(y));
        due(x.row(0), -1);
        due(x.turn(0), -1);
        due(x.meanSpeed(), 0.0);
        due(x.share(), 0.0f);
        due(x.report(), 0);
        due(x.save(), 0);
    }

    @Sentence("Promise 1: with an empty buffer")
    static void theBufferOfANewObject(TurnWheel x) {
        argument(() -> x.truncate(1));
        due(x.truncate(0), 0);
        due(x.readText(), 0);
    }

    // ---- 2

    @Sentence("Promise 2: Appends 20 bytes to the buffer: the four bytes of each argument, the most significant byte"
            + " first.")
    static void theOrderOfBytes(TurnWheel x) {
        // "wheel 123;fighter a " and "left speed 7 life 8 " and "plan hit 9;"
        due(x.feed(0x77686565, 0x6c203132, 0x333b6669, 0x67687465, 0x72206120), 20);
        due(x.feed(0x6c656674, 0x20737065, 0x65642037, 0x206c6966, 0x65203820), 40);
        due(x.feed(0x706c616e, 0x20686974, 0x20393b20, SPACES, SPACES), 60);
        due(x.readText(), 1);
        due(x.setting(1), 123);
        row(what -> x.fighter(0, what), 0, 7, 8, 0);
        due(x.actNumber(0, 0), 9);
    }

    @Sentence("Promise 2: the four bytes of each argument")
    static void bytesAbove127(TurnWheel x) {
        int[] args = {SPACES, SPACES, SPACES, SPACES, SPACES};
        for (int at = 0; at < 20; at++) {
            TurnWheel y = new TurnWheel();
            int[] a = args.clone();
            a[at / 4] = a[at / 4] & ~(255 << 24 - at % 4 * 8) | 0xe1 << 24 - at % 4 * 8;
            y.feed(a[0], a[1], a[2], a[3], a[4]);
            argument(y::readText);
            due(y.errorPosition(), at);
        }
        due(x.feed(-1, LEAST, GREATEST, 0, 0), 20);
    }

    @Sentence("Promise 2: Returns the number of bytes in the buffer.")
    static void theNumberOfBytes(TurnWheel x) {
        for (int n = 1; n <= 30; n++) {
            due(spaces(x), 20 * n);
        }
        x.truncate(7);
        due(spaces(x), 27);
    }

    @Sentence("Promise 2: if it would exceed 600")
    static void aBufferOf600Bytes(TurnWheel x) {
        for (int n = 1; n <= 30; n++) {
            spaces(x);
        }
        state(() -> x.feed(0, 0, 0, 0, 0));
        buffered(x, 600);
        x.truncate(581);
        state(() -> x.feed(0, 0, 0, 0, 0));
        buffered(x, 581);
        x.truncate(580);
        due(spaces(x), 600);
        due(x.readText(), 0);
    }

    // ---- 3

    @Sentence("Promise 3: Truncates the buffer.")
    static void whatIsCutOffIsGone(TurnWheel x) {
        fed(x, "wheel 100;wheel 200;");
        due(x.truncate(20), 20);
        due(x.truncate(10), 10);
        argument(() -> x.truncate(11));
        x.feed(SPACES, SPACES, SPACES, SPACES, SPACES);
        due(x.readText(), 0);
        due(x.setting(1), 100);
    }

    @Sentence("Promise 3: if n is negative or greater than the present length")
    static void lengthsOutOfRange(TurnWheel x) {
        due(x.truncate(0), 0);
        argument(() -> x.truncate(1));
        spaces(x);
        for (int n : new int[] {-1, 21, 600, LEAST, GREATEST}) {
            argument(() -> x.truncate(n));
        }
        buffered(x, 20);
        due(x.truncate(0), 0);
        due(spaces(x), 20);
    }

    // ---- 4

    @Sentence("Promise 4: Reads the whole buffer as a text, which replaces all that there is but what is saved and the"
            + " latest report (the time is 0, no turns were made)")
    static void aTextReplacesAll(TurnWheel x) {
        text(x, "wheel 123;" + BOB
                + "fighter c left speed 9 life 9 luck 9 plan again 3 guard 9 rest 1 rest 2 rest 3 rest 4;"
                + "fighter d right speed 1 life 1 plan hit 1;");
        x.extra(1);
        x.play(9);
        x.lift(0, 50);
        due(text(x, ANN + BOB), 2);
        due(all(x), all(of(ANN + BOB)));
        due(x.setting(2), 0);
        due(x.setting(3), 0);
        due(text(x, ""), 0);
        due(all(x), all(new TurnWheel()));
    }

    @Sentence("Promise 4: but what is saved and the latest report")
    static void aTextLeavesWhatIsSavedAndTheReport(TurnWheel x) {
        text(x, DUEL);
        x.play(3);
        x.save();
        String saved = fight(x);
        String report = report(x);
        text(x, BOB);
        due(written(x, report.length()), report);
        due(x.restore(), 4);
        due(fight(x), saved);
        text(x, "");
        due(x.restore(), 4);
    }

    @Sentence("Promise 4: and empties the buffer, also if the text has an error")
    static void aTextEmptiesTheBuffer(TurnWheel x) {
        text(x, ANN);
        argument(() -> x.truncate(1));
        due(spaces(x), 20);
        fed(x, "wheel 99;");
        argument(x::readText);
        argument(() -> x.truncate(1));
        due(x.readText(), 0);
        due(x.errorCode(), 0);
    }

    @Sentence("Promise 4: Returns the number of fighters.")
    static void theNumberOfFighters(TurnWheel x) {
        for (int n = 0; n <= 8; n++) {
            due(text(x, fighters(n)), n);
            due(x.setting(0), n);
        }
    }

    @Sentence("Promise 4: if the text has an error; only the buffer, errorCode() and errorPosition() change then")
    static void aWrongTextChangesNothing(TurnWheel x) {
        text(x, DUEL);
        x.play(3);
        x.setWheel(120);
        x.save();
        String saved = fight(x);
        x.extra(0);
        String before = all(x);
        String report = report(x);
        for (String text : new String[] {BOB + ANN + "wheel 99;", "wheel 500;" + ANN + "fighter", "A"}) {
            fed(x, text);
            argument(x::readText);
            due(all(x), before);
            due(written(x, report.length()), report);
        }
        due(x.undo(), 2);
        due(fight(x), saved);
        x.restore();
        due(fight(x), saved);
    }

    // ---- 5

    @Sentence("Promise 5: Reads the whole buffer as a script, empties the buffer, also if the text has an error, and"
            + " runs the script.")
    static void aScriptEmptiesTheBuffer(TurnWheel x) {
        text(x, ANN + BOB);
        due(script(x, "lift ann 7;"), 1);
        argument(() -> x.truncate(1));
        due(x.fighter(0, 4), 7);
        fed(x, "lift ann 7;lift");
        argument(x::runScript);
        argument(() -> x.truncate(1));
        due(x.runScript(), 0);
        due(x.fighter(0, 4), 7);
        due(spaces(x), 20);
    }

    @Sentence("Promise 5: Returns the number of commands that were done, \"repeat\" not counted.")
    static void theNumberOfCommands(TurnWheel x) {
        due(x.runScript(), 0);
        text(x, ANN + BOB);
        due(script(x, "lift ann 1;"), 1);
        due(script(x, "lift ann 1;repeat 3(lift ann 1;repeat 1(lift ann 2;););"), 7);
        due(script(x, "repeat 3();"), 0);
    }

    @Sentence("Promise 5: if the text has an error; only the buffer, errorCode() and errorPosition() change then")
    static void aWrongScriptChangesNothing(TurnWheel x) {
        text(x, DUEL);
        x.play(3);
        x.save();
        String saved = fight(x);
        x.lift(0, 7);
        String before = all(x);
        String report = report(x);
        for (String text : new String[] {"lift a 5;lift a", "lift a 5;lift zed 1;", "lift a 5;repeat 21();", "A"}) {
            fed(x, text);
            argument(x::runScript);
            due(all(x), before);
            due(written(x, report.length()), report);
        }
        due(x.restore(), 4);
        due(fight(x), saved);
    }

    // ---- 6 and 7

    @Sentence("Promise 6: Returns the code of the error of the latest readText() or runScript(); 0 if there was none"
            + " or no such call.")
    static void theLatestError(TurnWheel x) {
        due(x.errorCode(), 0);
        fed(x, "wheel 99;");
        argument(x::readText);
        due(x.errorCode(), 2);
        wrongScript(x, "lift zed 1;", 4, 5);
        fed(x, "A");
        argument(x::readText);
        due(x.errorCode(), 1);
        due(text(x, ANN), 1);
        due(x.errorCode(), 0);
        wrongScript(x, "lift", 1, 4);
        due(script(x, ""), 0);
        due(x.errorCode(), 0);
        wrongScript(x, "lift zed", 4, 5);
        due(text(x, ""), 0);
        due(x.errorCode(), 0);
    }

    @Sentence("Promise 6: of the latest readText() or runScript()")
    static void otherCallsLeaveTheError(TurnWheel x) {
        text(x, ANN + BOB);
        wrongScript(x, "turn 1;lift zed 1;", 4, 12);
        argument(() -> x.truncate(5));
        argument(() -> x.play(0));
        x.play(1);
        x.undo();
        x.save();
        x.restore();
        x.report();
        fed(x, "junk");
        due(x.errorCode(), 4);
        due(x.errorPosition(), 12);
    }

    @Sentence("Promise 7: Returns the position of that error; NONE if there was none or no such call.")
    static void thePositionOfTheLatestError(TurnWheel x) {
        due(x.errorPosition(), -1);
        fed(x, "A");
        argument(x::readText);
        due(x.errorPosition(), 0);
        due(text(x, ANN), 1);
        due(x.errorPosition(), -1);
        wrongScript(x, "lift", 1, 4);
        due(x.errorPosition(), 4);
        due(script(x, "lift ann 0;"), 0);
        due(x.errorPosition(), -1);
        fed(x, "wheel 100;wheel");
        argument(x::readText);
        due(x.errorPosition(), 10);
        due(text(x, ""), 0);
        due(x.errorPosition(), -1);
    }
}
