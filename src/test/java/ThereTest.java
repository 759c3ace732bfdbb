/** Promises 8 to 16: what is there. */
public final class ThereTest {
    private static final Check CHECK = new Check();
    private static final String DUEL = "wheel 100;fighter a left speed 50 life 20 plan hit 5;"
            + "fighter b right speed 25 life 12 plan hit 4;";
    private static final String FIVE = "wheel 100;fighter ann left speed 10 life 30 luck 2 plan hit 12 guard 5;"
            + "fighter bob right speed 20 life 40 luck 3 plan push 7;fighter c right speed 25 life 20 plan rest 9;"
            + "fighter dora left speed 20 life 7 luck 4 plan again 1;fighter e left speed 20 life 5 luck 4 plan lift 1;";

    public static void main(String[] args) {
        settings();
        fighters();
        acts();
        letters();
        ticks();
        rows();
        means();
        shares();
        CHECK.finish();
    }

    private static void settings() {
        TurnWheel x = Check.of(FIVE);
        int[] due = {5, 100, 0, 0, 5, 42, 60, -1, 0, 0};
        for (int i = 0; i < due.length; i++) {
            CHECK.same("setting " + i, x.setting(i), due[i]);
        }
        CHECK.argument("setting -1", () -> x.setting(-1));
        CHECK.argument("setting 10", () -> x.setting(10));
        CHECK.argument("the greatest int", () -> x.setting(Integer.MAX_VALUE));
        TurnWheel y = Check.of(DUEL);
        y.play(3);
        CHECK.same("the time", y.setting(2), 4);
        CHECK.same("turns", y.setting(3), 3);
        CHECK.same("life of side 0", y.setting(5), 16);
        CHECK.same("life of side 1", y.setting(6), 2);
        y.play(9);
        int[] over = {2, 100, 6, 4, 1, 16, 0, 0, 1, 2};
        for (int i = 0; i < over.length; i++) {
            CHECK.same("over: setting " + i, y.setting(i), over[i]);
        }
        CHECK.same("one side alone has won", Check.of("fighter a right speed 1 life 1 plan hit 1;").setting(7), 1);
        CHECK.same("one side alone is over", Check.of("fighter a right speed 1 life 1 plan hit 1;").setting(8), 1);
        CHECK.same("nobody has not won", new TurnWheel().setting(7), -1);
    }

    private static void fighters() {
        TurnWheel x = Check.of(DUEL);
        x.extra(0);
        x.play(4);
        int[] a = {0, 50, 20, 0, 0, 0, 0, 0, 1, 3, 1, 12};
        int[] b = {1, 25, 0, 0, 0, 0, 0, 0, 1, 1, 0, 0};
        CHECK.same("the extra turn ends the fight sooner", x.setting(3), 3);
        b[9] = 0;
        for (int i = 0; i < 12; i++) {
            CHECK.same("a " + i, x.fighter(0, i), a[i]);
            CHECK.same("b " + i, x.fighter(1, i), b[i]);
        }
        CHECK.index("fighter 2 of 2", () -> x.fighter(2, 0));
        CHECK.index("fighter -1", () -> x.fighter(-1, 0));
        CHECK.index("fighter -1 comes before what 12", () -> x.fighter(-1, 12));
        CHECK.argument("what 12", () -> x.fighter(0, 12));
        CHECK.argument("what -1", () -> x.fighter(0, -1));
        TurnWheel y = Check.of("wheel 100;fighter a left speed 20 life 9 plan guard 8 again 2;"
                + "fighter b right speed 10 life 9 luck 9 plan hit 8;");
        y.play(1);
        CHECK.same("guard", y.fighter(0, 5), 8);
        CHECK.same("place", y.fighter(0, 7), 1);
        CHECK.same("luck", y.fighter(1, 3), 9);
        CHECK.same("gauge of the other", y.fighter(1, 4), 50);
        y.play(2);
        CHECK.same("again: extra turns", y.fighter(0, 6), 2);
        y.play(1);
        CHECK.same("again: extra turns, one of them made", y.fighter(0, 6), 1);
        CHECK.same("again: extra turns made", y.fighter(0, 10), 1);
        CHECK.same("a hit of no more than the guard takes nothing", y.fighter(1, 11), 0);
    }

    private static void acts() {
        TurnWheel x = Check.of(FIVE);
        int[] wild = {-1, 2, 6, Integer.MIN_VALUE, Integer.MAX_VALUE};
        for (int i : wild) {
            CHECK.same("kind of act " + i, x.actKind(0, i), -1);
            CHECK.same("number of act " + i, x.actNumber(0, i), -1);
        }
        CHECK.same("kind of act 0", x.actKind(0, 0), 0);
        CHECK.same("kind of act 1", x.actKind(0, 1), 3);
        CHECK.same("number of act 0", x.actNumber(0, 0), 12);
        CHECK.same("number of act 1", x.actNumber(0, 1), 5);
        CHECK.same("act 1 of bob", x.actKind(1, 1), -1);
        CHECK.index("kind: fighter 5 of 5", () -> x.actKind(5, 0));
        CHECK.index("kind: fighter -1", () -> x.actKind(-1, 0));
        CHECK.index("number: fighter 5 of 5", () -> x.actNumber(5, 0));
        CHECK.index("number: fighter -1", () -> x.actNumber(-1, 9));
    }

    private static void letters() {
        TurnWheel x = Check.of(FIVE + "fighter abcdefgh left speed 1 life 1 plan hit 1;");
        String[] names = {"ann", "bob", "c", "dora", "e", "abcdefgh"};
        int[] at = {-1, 0, 1, 2, 3, 4, 5, 6, 7, 8, 9, 64, Integer.MIN_VALUE, Integer.MAX_VALUE};
        for (int f = 0; f < names.length; f++) {
            for (int i : at) {
                int due = i >= 0 && i < names[f].length() ? names[f].charAt(i) : 0;
                CHECK.same("letter " + i + " of " + names[f], x.letter(f, i), due);
            }
        }
        CHECK.index("letter: fighter 6 of 6", () -> x.letter(6, 0));
        CHECK.index("letter: fighter -1", () -> x.letter(-1, 0));
    }

    private static void ticks() {
        TurnWheel x = Check.of(FIVE);
        int[] due = {10, 5, 4, 5, 5};
        for (int i = 0; i < due.length; i++) {
            CHECK.same("ticksTo " + i, x.ticksTo(i), due[i]);
        }
        x.lift(0, 9);
        CHECK.same("91 to go at 10", x.ticksTo(0), 10);
        x.lift(0, 1);
        CHECK.same("90 to go at 10", x.ticksTo(0), 9);
        x.lift(0, 90);
        CHECK.same("nothing to go", x.ticksTo(0), 0);
        x.lift(0, 900);
        CHECK.same("more than enough", x.ticksTo(0), 0);
        x.extra(1);
        CHECK.same("an extra turn does not count", x.ticksTo(1), 5);
        CHECK.index("ticksTo 5 of 5", () -> x.ticksTo(5));
        CHECK.index("ticksTo -1", () -> x.ticksTo(-1));
        TurnWheel y = Check.of(DUEL);
        y.play(4);
        CHECK.same("one who does not live", y.ticksTo(1), -1);
        CHECK.same("one who lives when it is over", y.ticksTo(0), 2);
        CHECK.same("the longest way", Check.of("wheel 999;fighter a left speed 1 life 1 plan hit 1;").ticksTo(0), 999);
    }

    private static void rows() {
        TurnWheel x = Check.of(FIVE);
        int[] due = {2, 3, 4, 1, 0, -1};
        for (int i = 0; i < due.length; i++) {
            CHECK.same("row " + i, x.row(i), due[i]);
        }
        CHECK.same("row -1", x.row(-1), -1);
        CHECK.same("row of the least int", x.row(Integer.MIN_VALUE), -1);
        CHECK.same("row of the greatest int", x.row(Integer.MAX_VALUE), -1);
        x.extra(0);
        x.lift(1, 100);
        x.lift(0, 999);
        CHECK.same("by ticks, then by luck, not by gauge", x.row(0), 1);
        CHECK.same("by ticks, then by luck: second", x.row(1), 0);
        TurnWheel y = Check.of(DUEL);
        y.play(4);
        CHECK.same("row of those who live", y.row(0), 0);
        CHECK.same("row without one who does not live", y.row(1), -1);
        CHECK.same("row of nobody", new TurnWheel().row(0), -1);
    }

    private static void means() {
        TurnWheel x = Check.of(FIVE);
        CHECK.same("meanSpeed", x.meanSpeed(), 95.0 / 5);
        x.setSpeed(0, 16);
        CHECK.same("meanSpeed with a rest", x.meanSpeed(), 101.0 / 5);
        CHECK.same("meanSpeed of nobody", new TurnWheel().meanSpeed(), 0.0);
        TurnWheel y = Check.of(DUEL);
        CHECK.same("meanSpeed of two", y.meanSpeed(), 37.5);
        y.play(4);
        CHECK.same("meanSpeed of those who live", y.meanSpeed(), 50.0);
    }

    private static void shares() {
        TurnWheel x = Check.of(FIVE);
        CHECK.same("share", x.share(), (double) (42.0f / 102.0f));
        CHECK.same("share of nobody", new TurnWheel().share(), 0.0);
        CHECK.same("share of side 1 alone", Check.of("fighter a right speed 1 life 1 plan hit 1;").share(), 0.0);
        CHECK.same("share of side 0 alone", Check.of("fighter a left speed 1 life 1 plan hit 1;").share(), 1.0);
        TurnWheel y = Check.of(DUEL);
        CHECK.same("share of two", y.share(), (double) 0.625f);
        y.play(1);
        CHECK.same("share behind a hit", y.share(), (double) (20.0f / 27.0f));
    }
}
