/** Counts and prints the answers that are not as due. */
final class Check {
    private int asked = 0;
    private int wrong = 0;

    static TurnWheel fed(TurnWheel x, String text) {
        byte[] bytes = text.getBytes(java.nio.charset.StandardCharsets.ISO_8859_1);
        x.truncate(0);
        for (int i = 0; i < bytes.length; i += 20) {
            x.feed(four(bytes, i), four(bytes, i + 4), four(bytes, i + 8), four(bytes, i + 12), four(bytes, i + 16));
        }
        x.truncate(bytes.length);
        return x;
    }

    /** A new object that has read a text. */
    static TurnWheel of(String text) {
        TurnWheel x = fed(new TurnWheel(), text);
        x.readText();
        return x;
    }

    static int script(TurnWheel x, String text) {
        return fed(x, text).runScript();
    }

    static String reportOf(TurnWheel x) {
        int n = x.report();
        StringBuilder all = new StringBuilder();
        for (int i = 0; i < n; i++) {
            all.append((char) x.reportByte(i));
        }
        return all.toString();
    }

    private static int four(byte[] bytes, int from) {
        int all = 0;
        for (int i = from; i < from + 4; i++) {
            all = all << 8 | (i < bytes.length ? bytes[i] & 255 : 0);
        }
        return all;
    }

    void same(String what, long got, long want) {
        asked++;
        if (got != want) {
            tell(what + ": " + got + ", due is " + want);
        }
    }

    void same(String what, String got, String want) {
        asked++;
        if (!got.equals(want)) {
            tell(what + ": " + got + ", due is " + want);
        }
    }

    void same(String what, double got, double want) {
        asked++;
        if (got != want) {
            tell(what + ": " + got + ", due is " + want);
        }
    }

    void yes(String what, boolean got) {
        asked++;
        if (!got) {
            tell(what + ": false, due is true");
        }
    }

    void argument(String what, Runnable call) {
        thrown(what, call, IllegalArgumentException.class);
    }

    void state(String what, Runnable call) {
        thrown(what, call, IllegalStateException.class);
    }

    void index(String what, Runnable call) {
        thrown(what, call, IndexOutOfBoundsException.class);
    }

    private void thrown(String what, Runnable call, Class<?> due) {
        asked++;
        try {
            call.run();
        } catch (RuntimeException e) {
            if (e.getClass() != due) {
                tell(what + ": threw " + e.getClass().getName() + ", due is " + due.getName());
            }
            return;
        }
        tell(what + ": threw nothing, due is " + due.getName());
    }

    private void tell(String line) {
        wrong++;
        if (wrong <= 50) {
            System.out.println(line);
        }
    }

    void finish() {
        System.out.println(asked + " checks, " + wrong + " wrong");
        if (wrong != 0) {
            System.exit(1);
        }
    }
}
