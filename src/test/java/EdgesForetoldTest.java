/** Boundary cases of promises 16 to 20: rings, mending, showing, the host's plan, sentence by sentence. */
public final class EdgesForetoldTest {
    private static final int NONE = InnChanged.NONE, UNKNOWN = InnChanged.UNKNOWN, OUTSIDE = InnChanged.OUTSIDE;
    private static final int MIN = Integer.MIN_VALUE, MAX = Integer.MAX_VALUE;
    private static final int[] NO_SIDE = {-1, -2, 2, 3, MIN, MAX};

    public static void main(String[] args) {
        ringsFewAndMany();
        mendRefused();
        mendFewAndMany();
        mendBothWaysRound();
        mendByAnyNights();
        mendWithoutWatchers();
        showRefused();
        showFewAndMany();
        showSaidOnce();
        planRefused();
        planFewAndMany();
        planByNightsToCome();
        planOfAllNights();
        planTakesTheFirst();
        plannedRefused();
        plannedByNightsToCome();
        Due.end();
    }

    /** A host's six alike, changed so night by night. */
    private static InnChanged changed(int[][] changes) {
        InnChanged x = Due.told("host;" + Due.lines("dull 0 0", 6));
        Due.tell(x, Due.lines("night 0", 6));
        for (int[] change : changes) {
            Due.due("12 a change", x.pass(change[0], change[1]) > 0 ? 1 : 0, 1);
        }
        return x;
    }

    // ---- 16

    private static void ringsFewAndMany() {
        Due.due("16 no places", new InnChanged().rings(), 0);
        Due.due("16 people alone", Due.told("host;guest;night 1").rings(), 0);
        for (int things = 1; things <= 6; things++) {
            Due.due("16 'one alone, too'", Due.told("host;" + Due.lines("dull 0 0", things)).rings(), things);
        }
        Due.due("16 a ring of two", changed(new int[][] {{0, 5}}).rings(), 5);
        Due.due("16 three of two", changed(new int[][] {{0, 1}, {2, 3}, {4, 5}}).rings(), 3);
        Due.due("16 two of three", changed(new int[][] {{0, 1}, {1, 2}, {3, 4}, {4, 5}}).rings(), 2);
        Due.due("16 one of five", changed(new int[][] {{0, 1}, {1, 2}, {2, 3}, {3, 4}}).rings(), 2);
        Due.due("16 one of six", changed(new int[][] {{0, 1}, {1, 2}, {2, 3}, {3, 4}, {4, 5}}).rings(), 1);
        Due.due("16 changed back", changed(new int[][] {{0, 1}, {1, 0}}).rings(), 6);
        Twins.still("16 nothing changes", Twins::busy, InnChanged::rings, 3);
    }

    // ---- 17

    private static void mendRefused() {
        for (int i : new int[] {-2, -3, MIN}) {
            Twins.still("17 OUTSIDE 'i below NONE' " + i, Twins::busy, x -> x.mend(i, 0), OUTSIDE);
            Twins.still("17 OUTSIDE 'i below NONE' " + i, Twins::busy, x -> x.mend(i, 1), OUTSIDE);
            Twins.still("17 OUTSIDE both " + i, Twins::busy, x -> x.mend(i, 2), OUTSIDE);
        }
        for (int side : NO_SIDE) {
            for (int i : new int[] {NONE, 0, 1, MAX}) {
                Twins.still("17 OUTSIDE side " + side, Twins::busy, x -> x.mend(i, side), OUTSIDE);
            }
            Twins.still("17 OUTSIDE with nothing there", InnChanged::new, x -> x.mend(0, side), OUTSIDE);
        }
        int[][] want = {{1, 1}, {0, 1}, {NONE, NONE}, {NONE, NONE}};
        for (int i = 0; i < 4; i++) {
            int step = i - 1;
            Twins.still("17 mend(" + step + ", 0)", Twins::busy, x -> x.mend(step, 0), want[i][0]);
            Twins.still("17 mend(" + step + ", 1)", Twins::busy, x -> x.mend(step, 1), want[i][1]);
        }
        Twins.still("17 'there are not so many'", Twins::busy, x -> x.mend(MAX, 1), NONE);
    }

    private static void mendFewAndMany() {
        mend("nothing", new InnChanged(), new int[][] {});
        mend("all at home", changed(new int[][] {}), new int[][] {});
        mend("changed back", changed(new int[][] {{3, 5}, {5, 3}}), new int[][] {});
        mend("the last two", changed(new int[][] {{5, 4}}), new int[][] {{4, 5}});
        mend("three of two", changed(new int[][] {{0, 5}, {1, 4}, {2, 3}}), new int[][] {{0, 5}, {1, 4}, {2, 3}});
        // each has the next one's, and the last the first one's
        mend("one of six", changed(new int[][] {{0, 1}, {1, 2}, {2, 3}, {3, 4}, {4, 5}}),
                new int[][] {{0, 5}, {1, 5}, {2, 5}, {3, 5}, {4, 5}});
    }

    private static void mend(String name, InnChanged x, int[][] steps) {
        Due.due("17 " + name + ": how many", x.mend(NONE, 0), steps.length);
        Due.due("17 " + name + ": how many, by the other side", x.mend(NONE, 1), steps.length);
        for (int i = 0; i < steps.length; i++) {
            Due.due("17 " + name + ": the lesser of step " + i, x.mend(i, 0), steps[i][0]);
            Due.due("17 " + name + ": the other of step " + i, x.mend(i, 1), steps[i][1]);
        }
        for (int i : new int[] {steps.length, steps.length + 1, 6, MAX}) {
            Due.due("17 " + name + ": not so many " + i, x.mend(i, 0), NONE);
            Due.due("17 " + name + ": not so many " + i, x.mend(i, 1), NONE);
        }
    }

    private static void mendBothWaysRound() {
        // 1, 2, 0 lie there: the own one of place 0 lies in place 2
        mend("a ring of three", changed(new int[][] {{0, 1}, {1, 2}}), new int[][] {{0, 2}, {1, 2}});
        // 2, 0, 1 lie there: it lies in place 1
        mend("the other way round", changed(new int[][] {{1, 2}, {0, 1}}), new int[][] {{0, 1}, {1, 2}});
    }

    private static void mendByAnyNights() {
        InnChanged x = Due.told("guest;guest;dull 0 0;dull 0 1;night 3");
        x.pass(0, 1);
        mend("no night is to come", x, new int[][] {{0, 1}});
        InnChanged y = Due.told("guest;guest;dull 0 0;dull 0 1;night 3;night 0");
        y.pass(0, 1);
        mend("nobody sleeps there", y, new int[][] {{0, 1}});
    }

    private static void mendWithoutWatchers() {
        InnChanged x = Due.told("host;watcher;dull 0 1;dull 0 0;dull 0 1;dull 0 0;dull 0 1;dull 0 0;night 2;night 2");
        mend("a watcher's are at home", x, new int[][] {});
        x.pass(1, 3);
        x.pass(3, 5);
        // 3, 5, 1 lie in 1, 3, 5
        mend("past the watcher's", x, new int[][] {{1, 5}, {3, 5}});
        InnChanged y = Due.told("watcher;dull 0 0;dull 0 0;night 1");
        mend("a watcher's alone", y, new int[][] {});
    }

    // ---- 18

    private static void showRefused() {
        for (int one : new int[] {4, 5, -1, -2, 32, MIN, MAX}) {
            Twins.still("18 UNKNOWN show(" + one + ")", Twins::busy, x -> x.show(one), UNKNOWN);
        }
        int[] want = {2, 0, 0, 1};
        for (int one = 0; one < 4; one++) {
            int who = one;
            Twins.still("18 show(" + one + ")", Twins::busy, x -> x.show(who), want[one]);
        }
        InnChanged five = Due.told(Due.lines("guest", 5) + ";true 0 4 3");
        Due.due("18 the fifth", five.show(4), 1);
        Due.due("18 no sixth", five.show(5), UNKNOWN);
    }

    private static void showFewAndMany() {
        Due.due("18 of one without places", Due.told("guest").show(0), 0);
        Due.due("18 all six", Due.told("guest;" + Due.lines("true 0 0 3", 6)).show(0), 6);
        Due.due("18 six dull ones", Due.told("guest;" + Due.lines("dull 0 0", 6)).show(0), 0);
        Due.due("18 six without power", Due.told("guest;" + Due.lines("fading 0 0 1 0", 6)).show(0), 0);
        Due.due("18 six of power 1", Due.told("guest;" + Due.lines("fading 0 0 1 1", 6)).show(0), 6);
        // a dull one's word is 0: what lies in its place is asked by that
        InnChanged x = Due.told("guest;guest;dull 0 0;true 0 1 0;dull 0 0;true 0 1 1;night 3;night 3");
        x.pass(0, 1);
        Due.due("18 a charm of word 0 in a dull one's place", x.show(0), 1);
        x.pass(2, 3);
        Due.due("18 a charm of word 1 in a dull one's place", x.show(0), 1);
        Due.due("18 dull ones in places of charms", x.show(1), 0);
    }

    private static void showSaidOnce() {
        InnChanged x = Due.told("guest;fading 0 0 1 1");
        for (int i = 0; i < 3; i++) {
            Due.due("18 'said once', and nothing wears", x.show(0), 1);
        }
        Due.due("13 it still works", x.say(0, 1), 1);
        Due.due("18 no power is left", x.show(0), 0);
        Due.due("18 nobody knows by it", x.count(5), 0);
    }

    // ---- 19

    private static void planRefused() {
        for (int what : new int[] {-1, -2, 2, 3, MIN, MAX}) {
            Twins.still("19 OUTSIDE plan(" + what + ")", Twins::busy, x -> x.plan(what), OUTSIDE);
            Twins.still("19 OUTSIDE plan(" + what + ")", InnChanged::new, x -> x.plan(what), OUTSIDE);
        }
        Twins.still("19 charms", Twins::busy, x -> x.plan(0), 2);
        Twins.still("19 changes", Twins::busy, x -> x.plan(1), 0);
    }

    private static void plan(String name, InnChanged x, int charms, int[]... nights) {
        int changes = 0;
        for (int n = 0; n < nights.length; n++) {
            boolean none = nights[n].length == 0;
            Due.due("20 " + name + ": lesser of night " + n, x.planned(n, 0), none ? NONE : nights[n][0]);
            Due.due("20 " + name + ": other of night " + n, x.planned(n, 1), none ? NONE : nights[n][1]);
            changes += none ? 0 : 1;
        }
        Due.due("19 " + name + ": charms", x.plan(0), charms);
        Due.due("19 " + name + ": changes", x.plan(1), changes);
        Due.due("20 " + name + ": no further night", x.planned(nights.length, 0), UNKNOWN);
    }

    private static void planFewAndMany() {
        int[] none = {};
        plan("nothing", new InnChanged(), 0);
        plan("nights alone", Due.told("night 0;night 0"), 0, none, none);
        plan("no host", Due.told("guest;guest;true 0 0 0;dull 0 1;night 3"), 0, none);
        plan("a host without places", Due.told("host;guest;true 0 1 0;night 2"), 0, none);
        plan("no charm", Due.told("host;guest;dull 0 0;dull 0 1;night 2"), 0, none);
        plan("no night", Due.told("host;guest;true 0 0 0;dull 0 0;true 0 1 0"), 1);
        plan("all six are his", Due.told("host;" + Due.lines("moody 0 0 1", 6) + ";night 0"), 6, none);
        plan("charms of charms", Due.told("host;guest;true 0 0 0;true 0 1 0;night 2"), 1, none);
        plan("another look", Due.told("host;guest;dull 0 0;true 1 1 0;night 2"), 0, none);
        plan("a watcher's", Due.told("host;watcher;dull 0 0;true 0 1 0;night 2"), 0, none);
        plan("a faded one is a charm", Due.told("host;guest;dull 0 0;fading 0 1 0 0;night 2"), 1, new int[] {0, 1});
        plan("two hosts", Due.told("host;host;guest;dull 0 0;dull 0 1;true 0 2 0;true 0 2 0;night 4;night 4"), 2,
                new int[] {0, 2}, new int[] {1, 3});
    }

    private static void planByNightsToCome() {
        int[] none = {};
        String text = "host;guest;dull 0 0;true 0 1 0;";
        plan("the first of six alone", Due.told(text + "night 2;" + Due.lines("night 0", 5)), 1,
                new int[] {0, 1}, none, none, none, none, none);
        plan("the last of six alone", Due.told(text + Due.lines("night 0", 5) + ";night 2"), 1,
                none, none, none, none, none, new int[] {0, 1});
        plan("any of six", Due.told(text + Due.lines("night 2", 6)), 1,
                none, none, none, none, none, new int[] {0, 1});
        InnChanged x = Due.told(text + "night 2;night 0");
        x.keep(0);
        x.pass(NONE, NONE);
        Due.due("19 the night that was is gone", x.plan(0), 0);
        Due.due("19 no change", x.plan(1), 0);
        x.back(0);
        x.pass(0, 1);
        Due.due("19 what he has by now", x.plan(0), 1);
        Due.due("19 no change more", x.plan(1), 0);
        x.pass(NONE, NONE);
        Due.due("19 behind the last night", x.plan(0), 1);
        Due.due("19 behind the last night", x.plan(1), 0);
    }

    /** One guest sleeps there in the first night alone, another in three, the third in the first and the last ones. */
    private static void planOfAllNights() {
        int[] none = {};
        InnChanged x = Due.told("host;guest;guest;guest;" + Due.lines("dull 0 0", 3)
                + ";true 0 1 0;true 0 2 0;true 0 3 0");
        Due.tell(x, "night 14;night 8;night 8;night 2;night 2;night 2");
        plan("each in his night", x, 3, new int[] {0, 4}, none, new int[] {1, 5}, none, none, new int[] {2, 3});
        x.keep(0);
        x.pass(0, 4);
        Due.due("19 the rest of it", x.plan(1), 2);
        Due.due("19 the rest of it", x.plan(0), 3);
        x.back(0);
        x.pass(NONE, NONE);
        Due.due("19 without the first night", x.plan(0), 2);
        Due.due("19 without the first night", x.plan(1), 2);
        Due.due("20 the first of them", x.planned(2, 0), 0);
        Due.due("20 the first of them", x.planned(2, 1), 5);
        Due.due("20 the last of them", x.planned(5, 0), 1);
        Due.due("20 the last of them", x.planned(5, 1), 3);
    }

    private static void planTakesTheFirst() {
        int[] none = {};
        plan("'none ahead of others'", Due.told("host;guest;dull 0 0;true 0 1 0;night 2;night 2"), 1,
                none, new int[] {0, 1});
        plan("'by the lesser PLACE'", Due.told("host;guest;true 0 1 0;true 0 1 0;dull 0 0;dull 0 0;night 2"), 1,
                new int[] {0, 2});
        plan("'then the other one'", Due.told("host;guest;dull 0 0;dull 0 1;true 0 1 0;true 0 1 0;night 2"), 1,
                new int[] {0, 2});
        plan("the last two", Due.told("host;guest;dull 0 0;dull 0 0;dull 0 1;dull 0 1;dull 2 0;true 2 1 3;night 2"), 1,
                new int[] {4, 5});
    }

    // ---- 20

    private static void plannedRefused() {
        for (int night : new int[] {0, -1, -2, 3, 4, 6, 32, MIN, MAX}) {
            Twins.still("20 UNKNOWN planned(" + night + ", 0)", Twins::busy, x -> x.planned(night, 0), UNKNOWN);
            Twins.still("20 UNKNOWN ahead of OUTSIDE", Twins::busy, x -> x.planned(night, 2), UNKNOWN);
        }
        for (int side : NO_SIDE) {
            Twins.still("20 OUTSIDE planned(1, " + side + ")", Twins::busy, x -> x.planned(1, side), OUTSIDE);
            Twins.still("20 OUTSIDE planned(2, " + side + ")", Twins::busy, x -> x.planned(2, side), OUTSIDE);
        }
        for (int side = 0; side < 2; side++) {
            int asked = side;
            Twins.still("20 NONE: this night", Twins::busy, x -> x.planned(1, asked), NONE);
            Twins.still("20 NONE: the last night", Twins::busy, x -> x.planned(2, asked), NONE);
            for (int n = 0; n < 4; n++) {
                int night = n;
                Twins.still("20 UNKNOWN behind the last", Twins::late, x -> x.planned(night, asked), UNKNOWN);
            }
        }
    }

    private static void plannedByNightsToCome() {
        InnChanged x = Due.told("host;guest;dull 0 0;true 0 1 0;" + Due.lines("night 2", 6));
        for (int passed = 0; passed < 6; passed++) {
            for (int n = -1; n <= 6; n++) {
                int want = n < passed || n > 5 ? UNKNOWN : n == 5 ? 1 : NONE;
                Due.due("20 'a NIGHT to come' " + n + " of those from " + passed, x.planned(n, 1), want);
            }
            x.pass(NONE, NONE);
        }
        Due.due("20 none is to come", x.planned(5, 1), UNKNOWN);
        Due.due("20 none is to come", x.planned(6, 1), UNKNOWN);
    }
}
