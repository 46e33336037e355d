/** Boundary cases of promises 6 to 10: people, things and places, sentence by sentence. */
public final class EdgesToldTest {
    private static final int NONE = InnChanged.NONE, UNKNOWN = InnChanged.UNKNOWN,
            OUTSIDE = InnChanged.OUTSIDE, NOT = InnChanged.NOT;
    private static final int MIN = Integer.MIN_VALUE, MAX = Integer.MAX_VALUE;
    /** Numbers of people and things of which the busy one has four. */
    private static final int[] NO_SUCH = {4, 5, 6, -1, -2, 32, MIN, MAX};

    public static void main(String[] args) {
        oneRefused();
        onesPlaces();
        oneKnows();
        onesNights();
        asRefused();
        asEachKind();
        ownOnes();
        thingRefused();
        thingsPower();
        thingsWorked();
        thingAsRefused();
        thingAsEachKind();
        thingWouldWork();
        placeRefused();
        placesChanges();
        Due.end();
    }

    // ---- 6

    private static void oneRefused() {
        for (int one : NO_SUCH) {
            Twins.still("6 UNKNOWN one(" + one + ", 0)", Twins::busy, x -> x.one(one, 0), UNKNOWN);
            Twins.still("6 UNKNOWN ahead of OUTSIDE", Twins::busy, x -> x.one(one, 4), UNKNOWN);
        }
        for (int what : new int[] {-1, 4, MIN, MAX}) {
            Twins.still("6 OUTSIDE one(0, " + what + ")", Twins::busy, x -> x.one(0, what), OUTSIDE);
            Twins.still("6 OUTSIDE one(3, " + what + ")", Twins::busy, x -> x.one(3, what), OUTSIDE);
        }
        int[][] want = {{3, 10, 0, 7}, {0, 1, 1, 3}, {1, 0, 0, 0}, {2, 4, 0, 5}};
        for (int one = 0; one < 4; one++) {
            for (int what = 0; what < 4; what++) {
                int who = one;
                int asked = what;
                Twins.still("6 one(" + one + ", " + what + ")", Twins::busy, x -> x.one(who, asked), want[one][what]);
            }
        }
    }

    private static void onesPlaces() {
        InnChanged x = Due.told("guest;host;lender;watcher;guest");
        for (int one = 0; one < 5; one++) {
            Due.due("6 no places", x.one(one, 1), 0);
        }
        Due.tell(x, Due.lines("dull 0 4", 6));
        Due.due("6 all six places", x.one(4, 1), 63);
        Due.due("6 no place", x.one(0, 1), 0);
        Due.tell(x, "inn;guest;host;dull 0 1;dull 0 0;dull 0 0;dull 0 0;dull 0 0;dull 0 1;night 1");
        Due.due("6 the first and the last", x.one(1, 1), 33);
        Due.due("12 a change", x.pass(0, 1), 1);
        Due.due("6 places stay where things change", x.one(1, 1), 33);
    }

    private static void oneKnows() {
        InnChanged x = Due.told(Due.lines("guest", 5) + ";true 0 4 0;dull 0 0;night 17");
        Due.due("12 a change", x.pass(0, 1), 1);
        for (int one = 0; one < 5; one++) {
            Due.due("6 nobody knows", x.one(one, 2), 0);
        }
        Due.due("13 it does not work", x.say(0, 0), 0);
        for (int one = 0; one < 5; one++) {
            Due.due("6 the last one alone knows", x.one(one, 2), one == 4 ? 1 : 0);
        }
        Due.due("30 by bits", x.count(5), 16);
    }

    private static void onesNights() {
        InnChanged x = Due.told("guest;host;watcher");
        for (int one = 0; one < 3; one++) {
            Due.due("6 no nights", x.one(one, 3), 0);
        }
        Due.tell(x, Due.lines("night 0", 6));
        Due.due("6 in none", x.one(0, 3), 0);
        Due.due("6 'a HOST all'", x.one(1, 3), 63);
        Due.tell(x, "inn;guest;" + Due.lines("night 1", 6) + ";host");
        Due.due("6 in all six", x.one(0, 3), 63);
        Due.due("6 'a HOST all', though he came behind them", x.one(1, 3), 63);
        Due.tell(x, "watcher;lender;guest");
        Due.due("6 one who came later, in none", x.one(4, 3), 0);
        Due.tell(x, "inn;" + Due.lines("watcher", 5) + ";night 16;night 0;night 15;night 0;night 0;night 31");
        Due.due("6 the first and the last", x.one(4, 3), 33);
        Due.due("6 all but the first", x.one(0, 3), 36);
        for (int n = 0; n < 6; n++) {
            Due.due("12 a night passes", x.pass(NONE, NONE), n + 1);
        }
        Due.due("6 nights that were, too", x.one(4, 3), 33);
    }

    // ---- 7

    private static void asRefused() {
        for (int one : NO_SUCH) {
            Twins.still("7 UNKNOWN as(" + one + ", 0)", Twins::busy, x -> x.as(one, 0), UNKNOWN);
            Twins.still("7 UNKNOWN ahead of OUTSIDE", Twins::busy, x -> x.as(one, 5), UNKNOWN);
        }
        for (int kind : new int[] {-1, 5, 6, MIN, MAX}) {
            for (int one = 0; one < 4; one++) {
                int who = one;
                Twins.still("7 OUTSIDE as(" + one + ", " + kind + ")", Twins::busy, x -> x.as(who, kind), OUTSIDE);
            }
        }
    }

    private static void asEachKind() {
        // columns: ONE, GUEST, WATCHER, LENDER, HOST; in the busy one the guest and the host have lost one each
        int[][] want = {{1, NOT, NOT, NOT, 1}, {0, 0, NOT, NOT, NOT}, {0, 0, 0, NOT, NOT}, {1, 1, NOT, 1, NOT}};
        for (int one = 0; one < 4; one++) {
            for (int kind = 0; kind < 5; kind++) {
                int who = one;
                int asked = kind;
                Twins.still("7 as(" + one + ", " + kind + ")", Twins::busy, x -> x.as(who, asked), want[one][kind]);
            }
        }
    }

    private static void ownOnes() {
        InnChanged x = Due.told("guest;host;" + Due.lines("dull 0 0", 6) + ";night 1");
        Due.due("7 all six", x.as(0, 0), 6);
        Due.due("7 of one without places: none", x.as(1, 0), 0);
        Due.due("12 a change", x.pass(0, 5), 1);
        Due.due("7 they still lie in his places", x.as(0, 1), 6);
        InnChanged y = Due.told("guest;host;" + Due.lines("dull 0 0", 3) + ";" + Due.lines("dull 0 1", 3) + ";night 1;night 1;night 1");
        for (int i = 0; i < 3; i++) {
            Due.due("12 a change", y.pass(i, i + 3), i + 1);
            Due.due("7 one less", y.as(0, 1), 2 - i);
            Due.due("7 one less", y.as(1, 4), 2 - i);
        }
    }

    // ---- 8

    private static void thingRefused() {
        for (int thing : NO_SUCH) {
            Twins.still("8 UNKNOWN thing(" + thing + ", 0)", Twins::busy, x -> x.thing(thing, 0), UNKNOWN);
            Twins.still("8 UNKNOWN ahead of OUTSIDE", Twins::busy, x -> x.thing(thing, 6), UNKNOWN);
        }
        for (int what : new int[] {-1, 6, MIN, MAX}) {
            Twins.still("8 OUTSIDE thing(0, " + what + ")", Twins::busy, x -> x.thing(0, what), OUTSIDE);
            Twins.still("8 OUTSIDE thing(3, " + what + ")", Twins::busy, x -> x.thing(3, what), OUTSIDE);
        }
        int[][] want = {{2, 0, 0, 3, 1, 2}, {0, 0, 0, 0, 0, 0}, {3, 1, 2, 0, 2, 0}, {1, 1, 3, 0, 3, 0}};
        for (int t = 0; t < 4; t++) {
            for (int what = 0; what < 6; what++) {
                int thing = t;
                int asked = what;
                Twins.still("8 thing(" + t + ", " + what + ")", Twins::busy, x -> x.thing(thing, asked), want[t][what]);
            }
        }
    }

    private static void thingsPower() {
        InnChanged x = Due.told("guest;fading 0 0 1 9;fading 0 0 1 0");
        for (int power = 9; power > 0; power--) {
            Due.due("8 'POWER now'", x.thing(0, 3), power);
            Due.due("13 it works", x.say(0, 1), 1);
        }
        Due.due("8 no power", x.thing(0, 3), 0);
        Due.due("13 it does not work", x.say(0, 1), 0);
        Due.due("8 never below 0", x.thing(0, 3), 0);
        Due.due("8 how often it worked", x.thing(0, 5), 9);
        Due.due("13 one told without power", x.say(1, 1), 0);
        Due.due("8 never below 0", x.thing(1, 3), 0);
        Due.due("8 it never worked", x.thing(1, 5), 0);
        // powers of others do nothing and do not wear
        InnChanged y = Due.told("guest;true 0 0 1;moody 0 0 1;dull 0 0;power 0 1;power 1 1;power 2 9");
        int[] works = {1, 1, 0};
        int[] words = {1, 1, 0};
        int[] power = {1, 1, 9};
        for (int t = 0; t < 3; t++) {
            Due.due("13 said", y.say(t, words[t]), works[t]);
            Due.due("13 said again", y.say(t, words[t]), works[t]);
            Due.due("8 the power stays", y.thing(t, 3), power[t]);
        }
    }

    private static void thingsWorked() {
        InnChanged x = Due.told("guest;true 0 0 3;moody 0 0 0;dull 0 0;night 1");
        for (int i = 0; i < 100; i++) {
            Due.due("8 how often it worked", x.thing(0, 5), i);
            Due.due("13 it works", x.say(0, 3), 1);
        }
        Due.due("13 not at another word", x.say(0, 0), 0);
        Due.due("8 what did not work does not count", x.thing(0, 5), 100);
        Due.due("8 others did not", x.thing(1, 5), 0);
        Due.due("12 a change", x.pass(0, 2), 1);
        Due.due("8 it is the thing's, not the place's", x.thing(0, 5), 100);
        Due.due("8 it is the thing's, not the place's", x.thing(2, 5), 0);
        Due.due("8 where it lies", x.thing(0, 4), 2);
        Due.due("8 where it lies", x.thing(2, 4), 0);
    }

    // ---- 9

    private static void thingAsRefused() {
        for (int thing : NO_SUCH) {
            Twins.still("9 UNKNOWN thingAs(" + thing + ", 0)", Twins::busy, x -> x.thingAs(thing, 0), UNKNOWN);
            Twins.still("9 UNKNOWN ahead of OUTSIDE", Twins::busy, x -> x.thingAs(thing, 6), UNKNOWN);
        }
        for (int kind : new int[] {-1, 6, 7, MIN, MAX}) {
            for (int t = 0; t < 4; t++) {
                int thing = t;
                Twins.still("9 OUTSIDE thingAs(" + t + ", " + kind + ")", Twins::busy, x -> x.thingAs(thing, kind),
                        OUTSIDE);
            }
        }
    }

    private static void thingAsEachKind() {
        // columns: THING, DULL, CHARM, TRUE, FADING, MOODY
        int[][] want = {
            {1, NOT, 1, NOT, 1, NOT}, {0, 0, NOT, NOT, NOT, NOT}, {1, NOT, 1, 1, NOT, 1}, {1, NOT, 1, 1, NOT, NOT},
        };
        for (int t = 0; t < 4; t++) {
            for (int kind = 0; kind < 6; kind++) {
                int thing = t;
                int asked = kind;
                Twins.still("9 thingAs(" + t + ", " + kind + ")", Twins::busy, x -> x.thingAs(thing, asked),
                        want[t][kind]);
            }
        }
    }

    private static void thingWouldWork() {
        InnChanged x = Due.told("guest;lender;host;fading 0 0 3 1;fading 0 0 3 0;dull 0 1;moody 0 0 3;moody 0 2 0;night 3;night 3;night 3");
        Due.due("9 power 1", x.thingAs(0, 4), 1);
        Due.due("9 power 0", x.thingAs(1, 4), 0);
        Due.due("13 the last power goes", x.say(0, 3), 1);
        Due.due("9 power 0", x.thingAs(0, 4), 0);
        Due.due("9 a dull one never would", x.thingAs(2, 1), 0);
        Due.due("9 moody, with its own keeper", x.thingAs(3, 5), 1);
        Due.due("9 moody, with the host whose own it is", x.thingAs(4, 5), 1);
        Due.due("12 a change", x.pass(3, 2), 1);
        Due.due("9 moody, with a lender", x.thingAs(3, 5), 1);
        Due.due("12 a change", x.pass(2, 4), 2);
        Due.due("9 moody, with another", x.thingAs(3, 5), 0);
        Due.due("9 moody, with a lender", x.thingAs(4, 5), 1);
        Due.due("12 a change", x.pass(0, 4), 3);
        Due.due("9 moody, with its keeper, in another place", x.thingAs(3, 5), 1);
    }

    // ---- 10

    private static void placeRefused() {
        for (int place : NO_SUCH) {
            Twins.still("10 UNKNOWN place(" + place + ", 0)", Twins::busy, x -> x.place(place, 0), UNKNOWN);
            Twins.still("10 UNKNOWN ahead of OUTSIDE", Twins::busy, x -> x.place(place, 3), UNKNOWN);
        }
        for (int what : new int[] {-1, 3, MIN, MAX}) {
            Twins.still("10 OUTSIDE place(0, " + what + ")", Twins::busy, x -> x.place(0, what), OUTSIDE);
            Twins.still("10 OUTSIDE place(3, " + what + ")", Twins::busy, x -> x.place(3, what), OUTSIDE);
        }
        int[][] want = {{1, 1, 1}, {0, 0, 1}, {3, 2, 0}, {0, 3, 0}};
        for (int p = 0; p < 4; p++) {
            for (int what = 0; what < 3; what++) {
                int place = p;
                int asked = what;
                Twins.still("10 place(" + p + ", " + what + ")", Twins::busy, x -> x.place(place, asked), want[p][what]);
            }
        }
    }

    private static void placesChanges() {
        InnChanged x = Due.told("host;dull 0 0;dull 0 0;dull 0 0;" + Due.lines("night 0", 6));
        int[] others = {1, 2, 1, 2, 1, 2};
        for (int n = 0; n < 6; n++) {
            Due.due("10 in how many changes it was", x.place(0, 2), n);
            Due.due("12 a change", x.pass(0, others[n]), n + 1);
        }
        Due.due("10 in all six", x.place(0, 2), 6);
        Due.due("10 in three", x.place(1, 2), 3);
        Due.due("10 in three", x.place(2, 2), 3);
        Due.due("30 changes in all", x.count(4), 6);
        // each two changes make a ring of three go round by one: three times, and all are back
        Due.due("30 in their own places", x.count(6), 7);
    }
}
