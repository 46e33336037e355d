/** Promises 11 to 20: nights, words, and what is foretold. */
public final class NightsTest {
    private static final int NONE = InnChanged.NONE, UNKNOWN = InnChanged.UNKNOWN,
            OUTSIDE = InnChanged.OUTSIDE, NOT = InnChanged.NOT;

    public static void main(String[] args) {
        may();
        pass();
        say();
        sayMoody();
        knows();
        keepAndBack();
        rings();
        mend();
        show();
        plan();
        planTakesTheFirst();
        planFromThisNight();
        planWithoutHost();
        Due.end();
    }

    private static void may() {
        InnChanged x = Due.told("host;guest;watcher;lender;dull 0 0;true 0 1 0;true 0 2 0;true 0 3 0;dull 1 0;dull 0 0;"
                + "night 2;night 12;night 0");
        int[][] rows = {
            {0, 0, 1, 1}, {0, 1, 0, 1}, {0, 0, 2, 0}, {0, 0, 3, 0}, {0, 0, 4, 0}, {0, 0, 5, 1}, {0, 1, 3, 0},
            {1, 0, 1, 0}, {1, 0, 2, 0}, {1, 2, 3, 0}, {1, 0, 3, 1}, {1, 3, 5, 1}, {1, 4, 5, 0},
            {2, 0, 5, 1}, {2, 0, 1, 0}, {2, 0, 3, 0},
        };
        for (int[] row : rows) {
            Due.due("11 may(" + row[0] + ", " + row[1] + ", " + row[2] + ")", x.may(row[0], row[1], row[2]), row[3]);
        }
        Due.due("11 no such night", x.may(3, 0, 1), UNKNOWN);
        Due.due("11 no such night", x.may(-1, 0, 0), UNKNOWN);
        Due.due("11 no such place", x.may(0, 6, 6), UNKNOWN);
        Due.due("11 no such place", x.may(0, 0, NONE), UNKNOWN);
        Due.due("11 a place and itself", x.may(0, 1, 1), OUTSIDE);
        x.pass(NONE, NONE);
        Due.due("11 a night that was", x.may(0, 0, 1), 1);
    }

    private static void pass() {
        InnChanged x = Due.told("host;guest;dull 0 0;true 0 1 0;true 1 1 0;night 2;night 0;night 2");
        Due.due("12 another look", x.pass(0, 2), NOT);
        Due.due("12 itself", x.pass(1, 1), OUTSIDE);
        Due.due("12 one is none", x.pass(1, NONE), OUTSIDE);
        Due.due("12 one is none", x.pass(NONE, 1), OUTSIDE);
        Due.due("12 unknown ahead of outside", x.pass(3, NONE), UNKNOWN);
        Due.due("12 unknown ahead of outside", x.pass(NONE, 3), UNKNOWN);
        Due.due("12 unknown", x.pass(3, 3), UNKNOWN);
        Due.due("12 unknown", x.pass(-2, 0), UNKNOWN);
        Due.due("12 unknown", x.pass(-2, -2), UNKNOWN);
        Due.due("12 nothing passed", x.count(3), 0);
        Due.due("12 a change", x.pass(1, 0), 1);
        Due.due("12 it lies there", x.place(0, 1), 1);
        Due.due("12 changes", x.count(4), 1);
        Due.due("12 he does not sleep there", x.pass(1, 0), NOT);
        Due.due("12 nothing passed", x.count(3), 1);
        Due.due("12 none", x.pass(NONE, NONE), 2);
        Due.due("12 changes", x.count(4), 1);
        Due.due("12 a change back", x.pass(0, 1), 3);
        Due.due("12 own places", x.count(6), 7);
        Due.due("12 changes", x.count(4), 2);
        Due.due("12 no further night", x.pass(NONE, NONE), NOT);
        Due.due("12 no further night", x.pass(0, 1), NOT);
        Due.due("12 outside ahead of not", x.pass(0, 0), OUTSIDE);
        Due.due("12 unknown ahead of not", x.pass(0, 3), UNKNOWN);
        Due.due("12 passed", x.count(3), 3);
    }

    private static void say() {
        InnChanged x = Due.told("host;guest;dull 0 0;true 0 1 2;fading 0 1 0 1;night 2");
        Due.due("13 dull, its word 0", x.say(0, 0), 0);
        Due.due("13 true", x.say(1, 2), 1);
        Due.due("13 true, again", x.say(1, 2), 1);
        Due.due("13 true, another word", x.say(1, 1), 0);
        Due.due("13 fading", x.say(2, 0), 1);
        Due.due("13 another word does not fade", x.say(2, 3), 0);
        Due.due("13 worked", x.thing(1, 5), 2);
        Due.due("13 worked", x.thing(2, 5), 1);
        Due.due("13 nobody knows", x.count(5), 0);
        Due.due("13 faded", x.say(2, 0), 0);
        Due.due("13 power stays", x.thing(2, 3), 0);
        Due.due("13 he knows", x.count(5), 2);
        Due.due("13 unknown", x.say(3, 4), UNKNOWN);
        Due.due("13 unknown", x.say(-1, 0), UNKNOWN);
        Due.due("13 outside", x.say(0, 4), OUTSIDE);
        Due.due("13 outside", x.say(0, -1), OUTSIDE);
        x.pass(0, 1);
        Due.due("13 it works where it lies", x.say(0, 2), 1);
    }

    private static void sayMoody() {
        InnChanged x = Due.told("host;guest;lender;moody 0 1 3;dull 0 2;dull 0 0;dull 0 1;night 6;night 6;night 6");
        Due.due("13 moody, own place", x.say(0, 3), 1);
        Due.due("13 moody, another word", x.say(0, 0), 0);
        x.pass(0, 3);
        Due.due("13 moody, another place of his", x.say(3, 3), 1);
        x.pass(3, 1);
        Due.due("13 moody with a lender", x.say(1, 3), 1);
        x.pass(1, 2);
        Due.due("13 moody with the host", x.say(2, 3), 0);
        Due.due("13 worked", x.thing(0, 5), 3);
        InnChanged y = Due.told("host;lender;guest;moody 0 1 0;dull 0 2;night 6");
        y.pass(0, 1);
        Due.due("13 a lender's own, with another", y.say(1, 0), 0);
    }

    private static void knows() {
        InnChanged x = Due.told("host;guest;watcher;true 0 0 1;true 0 1 2;dull 0 0;dull 0 1;fading 1 2 1 0;night 2;night 2;night 2");
        x.pass(0, 2);
        x.say(0, 1);
        Due.due("13 a host never knows", x.count(5), 0);
        x.pass(1, 2);
        Due.due("13 it works at another word", x.say(1, 1), 1);
        Due.due("13 that tells him nothing", x.count(5), 0);
        x.say(1, 0);
        Due.due("13 not the own thing's word", x.count(5), 0);
        x.say(3, 0);
        Due.due("13 the own thing is dull", x.count(5), 0);
        x.say(1, 2);
        Due.due("13 he knows", x.count(5), 2);
        x.pass(1, 2);
        x.say(1, 2);
        Due.due("13 from then on", x.one(1, 2), 1);
        Due.due("13 a watcher's own that has faded", x.say(4, 1), 0);
        Due.due("13 he knows, too", x.count(5), 6);
    }

    private static void keepAndBack() {
        InnChanged x = Due.told("host;guest;dull 0 0;fading 0 1 0 5;night 2;night 2");
        Due.due("15 nothing was kept", x.back(0), NOT);
        Due.due("14 keep", x.keep(0), 0);
        x.say(1, 0);
        x.pass(0, 1);
        x.say(1, 0);
        x.seen(0, 0, 1);
        Due.due("14 keep", x.keep(1), 1);
        x.pass(0, 1);
        x.say(1, 0);
        Due.due("15 back", x.back(1), 1);
        checkState(x, 1, 1, 2, 0, 4, 1);
        Due.due("15 seen stays", x.count(8), 1);
        Due.due("15 back", x.back(0), 0);
        checkState(x, 0, 0, 0, 3, 5, 0);
        Due.due("15 seen stays", x.count(8), 1);
        Due.due("15 back and forth", x.back(1), 1);
        checkState(x, 1, 1, 2, 0, 4, 1);
        Due.due("14 keep over it", x.keep(0), 1);
        x.pass(NONE, NONE);
        x.say(0, 0);
        Due.due("15 the later one", x.back(0), 1);
        checkState(x, 1, 1, 2, 0, 4, 1);
        Due.due("14 unknown", x.keep(2), UNKNOWN);
        Due.due("14 unknown", x.keep(-1), UNKNOWN);
        Due.due("15 unknown", x.back(2), UNKNOWN);
        Due.due("15 unknown", x.back(-1), UNKNOWN);
        Due.tell(x, "night 0");
        Due.due("15 nothing since the text", x.back(0), NOT);
        Due.due("15 nothing since the text", x.back(1), NOT);
        x.keep(1);
        Due.due("15 only the other was kept", x.back(0), NOT);
        // a text with a fault is none
        Due.write(x, "nigh");
        x.inn();
        Due.due("15 it is still kept", x.back(1), 0);
    }

    private static void checkState(InnChanged x, int passed, int changes, int known, int home, int power, int worked) {
        Due.due("15 passed", x.count(3), passed);
        Due.due("15 changes", x.count(4), changes);
        Due.due("15 changes of a place", x.place(0, 2), changes);
        Due.due("15 known", x.count(5), known);
        Due.due("15 own places", x.count(6), home);
        Due.due("15 power", x.thing(1, 3), power);
        Due.due("15 worked", x.thing(1, 5), worked);
    }

    private static void rings() {
        InnChanged x = Due.told("host;dull 0 0;dull 0 0;dull 0 0;dull 0 0;dull 1 0;dull 1 0;"
                + "night 0;night 0;night 0;night 0;night 0");
        int[][] changes = {{0, 1}, {1, 2}, {4, 5}, {2, 3}, {0, 3}};
        int[] want = {5, 4, 3, 2, 3};
        Due.due("16 each alone", x.rings(), 6);
        for (int i = 0; i < 5; i++) {
            x.pass(changes[i][0], changes[i][1]);
            Due.due("16 rings " + i, x.rings(), want[i]);
        }
    }

    private static void mend() {
        InnChanged x = Due.told("host;watcher;dull 0 0;dull 0 1;dull 0 0;dull 0 0;dull 1 0;dull 1 0;night 0;night 0;night 0");
        Due.due("17 all at home", x.mend(NONE, 0), 0);
        Due.due("17 no step", x.mend(0, 0), NONE);
        x.pass(0, 2);
        x.pass(2, 3);
        x.pass(5, 4);
        // place 0 has 2, place 2 has 3, place 3 has 0
        Due.due("17 steps", x.mend(NONE, 1), 3);
        int[][] steps = {{0, 3}, {2, 3}, {4, 5}};
        for (int i = 0; i < 3; i++) {
            Due.due("17 lesser of " + i, x.mend(i, 0), steps[i][0]);
            Due.due("17 other of " + i, x.mend(i, 1), steps[i][1]);
        }
        Due.due("17 not so many", x.mend(3, 0), NONE);
        Due.due("17 not so many", x.mend(Integer.MAX_VALUE, 1), NONE);
        Due.due("17 outside", x.mend(-2, 0), OUTSIDE);
        Due.due("17 outside", x.mend(0, 2), OUTSIDE);
        Due.due("17 outside", x.mend(0, -1), OUTSIDE);
        Due.due("17 outside", x.mend(NONE, 2), OUTSIDE);
        Due.due("17 nothing changes", x.place(0, 1), 2);
    }

    private static void show() {
        InnChanged x = Due.told("host;guest;true 0 1 1;fading 0 1 1 1;moody 0 1 0;dull 0 0;dull 0 1;night 2;night 2;night 2");
        Due.due("18 of his own", x.show(1), 3);
        Due.due("18 of dull ones", x.show(0), 0);
        x.pass(0, 1);
        Due.due("18 another does as well", x.show(1), 3);
        x.pass(2, 4);
        // moody of word 0 lies in the place of a dull one, whose word is 0, too
        Due.due("18 by the word of the place's own", x.show(1), 3);
        x.say(0, 1);
        Due.due("18 one has faded", x.show(1), 2);
        Due.due("18 nothing wears by it", x.show(1), 2);
        x.pass(0, 3);
        Due.due("18 the faded one is gone", x.show(1), 2);
        Due.due("18 unknown", x.show(2), UNKNOWN);
        Due.due("18 unknown", x.show(-1), UNKNOWN);
    }

    private static void plan() {
        InnChanged x = Due.told("host;guest;watcher;true 0 1 0;dull 0 0;true 0 1 1;dull 0 0;true 0 2 0;true 1 1 0;night 6;night 0");
        Due.due("19 charms", x.plan(0), 1);
        Due.due("19 changes", x.plan(1), 1);
        Due.due("20 lesser", x.planned(0, 0), 0);
        Due.due("20 other", x.planned(0, 1), 1);
        Due.due("20 none", x.planned(1, 0), NONE);
        Due.due("20 none", x.planned(1, 1), NONE);
        Due.due("19 outside", x.plan(2), OUTSIDE);
        Due.due("19 outside", x.plan(-1), OUTSIDE);
        Due.due("20 unknown", x.planned(2, 0), UNKNOWN);
        Due.due("20 unknown", x.planned(-1, 5), UNKNOWN);
        Due.due("20 outside", x.planned(0, 2), OUTSIDE);
        Due.due("20 outside", x.planned(0, -1), OUTSIDE);
        Due.due("20 nothing changes", x.count(6), 63);
        // what the host has already counts, and is not given away
        InnChanged y = Due.told("host;guest;true 0 1 0;moody 0 0 0;fading 1 0 0 0;night 2");
        Due.due("19 charms of his own", y.plan(0), 2);
        Due.due("19 no change is better", y.plan(1), 0);
        Due.due("20 none", y.planned(0, 0), NONE);
    }

    private static void planTakesTheFirst() {
        // a charm must go by way of the second guest, who sleeps there with the first only
        InnChanged x = Due.told("host;guest;guest;true 0 1 0;dull 0 2;dull 0 0;dull 0 0;night 6;night 6;night 4");
        Due.due("19 straight", x.plan(1), 1);
        Due.due("20 night 0", x.planned(0, 0), NONE);
        Due.due("20 night 1", x.planned(1, 0), 0);
        Due.due("20 night 1", x.planned(1, 1), 2);
        Due.due("20 night 2", x.planned(2, 0), NONE);
        InnChanged y = Due.told("host;guest;true 0 1 0;dull 0 0;dull 0 0;true 0 1 0;night 2;night 2;night 2");
        Due.due("19 charms", y.plan(0), 2);
        Due.due("20 as late as can be", y.planned(0, 0), NONE);
        Due.due("20 night 1", y.planned(1, 0), 0);
        Due.due("20 night 1", y.planned(1, 1), 1);
        Due.due("20 night 2", y.planned(2, 0), 2);
        Due.due("20 night 2", y.planned(2, 1), 3);
    }

    private static void planFromThisNight() {
        InnChanged x = Due.told("host;guest;true 0 1 0;dull 0 0;night 2;night 0;night 2");
        x.pass(NONE, NONE);
        Due.due("20 a night that was", x.planned(0, 0), UNKNOWN);
        Due.due("20 this night", x.planned(1, 0), NONE);
        Due.due("20 the next", x.planned(2, 1), 1);
        x.pass(NONE, NONE);
        Due.due("19 charms", x.plan(0), 1);
        x.pass(NONE, NONE);
        Due.due("19 too late", x.plan(0), 0);
        Due.due("19 no change", x.plan(1), 0);
        Due.due("20 no night to come", x.planned(2, 0), UNKNOWN);
        Due.due("20 unknown ahead of outside", x.planned(2, 7), UNKNOWN);
        InnChanged y = Due.told("host;guest;true 0 1 0;dull 0 0;night 2");
        y.pass(0, 1);
        Due.due("19 what he has at the end", y.plan(0), 1);
    }

    private static void planWithoutHost() {
        InnChanged x = Due.told("guest;guest;true 0 0 0;dull 0 1;night 3");
        Due.due("19 no host", x.plan(0), 0);
        Due.due("19 no host", x.plan(1), 0);
        Due.due("20 no host", x.planned(0, 0), NONE);
        InnChanged y = Due.told("host;guest;host;true 0 1 0;dull 0 0;dull 0 2;true 0 1 0;night 2;night 2");
        Due.due("19 two hosts", y.plan(0), 2);
        InnChanged z = Due.told("host;guest;dull 0 0;true 0 1 0;night 2");
        Due.due("19 place 0 alone", z.plan(0), 1);
        Due.due("20 place 0 alone", z.planned(0, 0), 0);
        InnChanged w = Due.told("host;guest;dull 0 0;dull 0 1;night 2");
        Due.due("19 no charm", w.plan(0), 0);
    }
}
