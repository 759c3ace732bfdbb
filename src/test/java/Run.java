import java.nio.charset.StandardCharsets;
import java.util.function.IntUnaryOperator;

/** What the tests of sentences share: bytes for an object, and the answers that are due. */
abstract class Run {
    static final int LEAST = Integer.MIN_VALUE;
    static final int GREATEST = Integer.MAX_VALUE;
    static final int SPACES = 0x20202020;
    /** Time 2: a hits; 4: a hits, b hits; 6: a hits, and b does not live any more. */
    static final String DUEL = "wheel 100;fighter a left speed 50 life 20 plan hit 5;"
            + "fighter b right speed 25 life 12 plan hit 4;";

    /** Puts a text into the buffer, in place of what is there. */
    static TurnWheel fed(TurnWheel x, String text) {
        byte[] bytes = text.getBytes(StandardCharsets.ISO_8859_1);
        x.truncate(0);
        for (int i = 0; i < bytes.length; i += 20) {
            x.feed(four(bytes, i), four(bytes, i + 4), four(bytes, i + 8), four(bytes, i + 12), four(bytes, i + 16));
        }
        x.truncate(bytes.length);
        return x;
    }

    private static int four(byte[] bytes, int from) {
        int all = 0;
        for (int i = from; i < from + 4; i++) {
            all = all << 8 | (i < bytes.length ? bytes[i] & 255 : 0);
        }
        return all;
    }

    static int text(TurnWheel x, String text) {
        return fed(x, text).readText();
    }

    static int script(TurnWheel x, String text) {
        return fed(x, text).runScript();
    }

    /** A new object that has read a text. */
    static TurnWheel of(String text) {
        TurnWheel x = new TurnWheel();
        text(x, text);
        return x;
    }

    /** The same text with the sides exchanged. */
    static String mirrored(String text) {
        return text.replace(" left", " up").replace(" right", " left").replace(" up", " right");
    }

    /** The text of fighters a, b, c and so on, all on the left. */
    static String fighters(int n) {
        StringBuilder all = new StringBuilder();
        for (int i = 0; i < n; i++) {
            all.append("fighter ").append((char) ('a' + i)).append(" left speed 1 life 1 plan hit 1;");
        }
        return all.toString();
    }

    /** The gauge is made more as often as one call can't do it. */
    static void lift(TurnWheel x, int fighter, int by) {
        for (int left = by; left > 0; left -= 999) {
            x.lift(fighter, Math.min(left, 999));
        }
    }

    /** The same by commands of a script. */
    static String lifts(String name, int by) {
        String most = by < 999 ? "" : "repeat " + by / 999 + "(lift " + name + " 999;);";
        return by % 999 == 0 ? most : most + "lift " + name + " " + by % 999 + ";";
    }

    static void extras(TurnWheel x, int fighter, int n) {
        for (int i = 0; i < n; i++) {
            x.extra(fighter);
        }
    }

    static String name(TurnWheel x, int fighter) {
        StringBuilder all = new StringBuilder();
        for (int i = 0; i < 9 && x.letter(fighter, i) != 0; i++) {
            all.append((char) x.letter(fighter, i));
        }
        return all.toString();
    }

    static String report(TurnWheel x) {
        return written(x, x.report());
    }

    /** The bytes of the latest report. */
    static String written(TurnWheel x, int length) {
        StringBuilder all = new StringBuilder();
        for (int i = 0; i < length; i++) {
            all.append((char) x.reportByte(i));
        }
        return all.toString();
    }

    /** All that there is but the error, the buffer, the report and what is saved. */
    static String all(TurnWheel x) {
        return fight(x) + " to undo " + x.setting(9);
    }

    /** All that there is but also what can be undone. */
    static String fight(TurnWheel x) {
        StringBuilder all = new StringBuilder();
        for (int i = 0; i < 9; i++) {
            all.append(x.setting(i)).append(' ');
        }
        for (int f = 0; f < x.setting(0); f++) {
            all.append('\n').append(name(x, f)).append(' ');
            for (int i = 0; i < 12; i++) {
                all.append(x.fighter(f, i)).append(' ');
            }
            for (int i = 0; i < x.fighter(f, 8); i++) {
                all.append(x.actKind(f, i)).append(':').append(x.actNumber(f, i)).append(' ');
            }
        }
        return all.toString();
    }

    static void due(long got, long want) {
        if (got != want) {
            throw new AssertionError(got + ", due is " + want);
        }
    }

    static void due(float got, float want) {
        if (got != want) {
            throw new AssertionError(got + ", due is " + want);
        }
    }

    static void due(double got, double want) {
        if (got != want) {
            throw new AssertionError(got + ", due is " + want);
        }
    }

    static void due(boolean got, boolean want) {
        if (got != want) {
            throw new AssertionError(got + ", due is " + want);
        }
    }

    static void due(String got, String want) {
        if (!got.equals(want)) {
            throw new AssertionError("'" + got + "', due is '" + want + "'");
        }
    }

    /** The answers of a call for 0, 1, 2 and so on. */
    static void row(IntUnaryOperator call, int... want) {
        for (int i = 0; i < want.length; i++) {
            if (call.applyAsInt(i) != want[i]) {
                throw new AssertionError("of " + i + ": " + call.applyAsInt(i) + ", due is " + want[i]);
            }
        }
    }

    static void argument(Runnable call) {
        thrown(call, IllegalArgumentException.class);
    }

    static void state(Runnable call) {
        thrown(call, IllegalStateException.class);
    }

    static void index(Runnable call) {
        thrown(call, IndexOutOfBoundsException.class);
    }

    private static void thrown(Runnable call, Class<?> due) {
        try {
            call.run();
        } catch (RuntimeException e) {
            if (e.getClass() != due) {
                throw new AssertionError("threw " + e.getClass().getName() + ", due is " + due.getName());
            }
            return;
        }
        throw new AssertionError("threw nothing, due is " + due.getName());
    }

    /** A text that a new object refuses. */
    static void wrongText(String text, int code, int position) {
        TurnWheel x = fed(new TurnWheel(), text);
        wrong(text, x, x::readText, code, position);
    }

    /** A script that an object refuses. */
    static void wrongScript(TurnWheel x, String text, int code, int position) {
        fed(x, text);
        wrong(text, x, x::runScript, code, position);
    }

    private static void wrong(String text, TurnWheel x, Runnable call, int code, int position) {
        try {
            argument(call);
            due(x.errorCode(), code);
            due(x.errorPosition(), position);
        } catch (AssertionError e) {
            throw new AssertionError("'" + text + "': " + e.getMessage(), e);
        }
    }
}
