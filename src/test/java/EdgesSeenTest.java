/** Boundary cases of promises 21 to 30: what was seen, what fits it, the counts, sentence by sentence. */
public final class EdgesSeenTest {
    private static final int NONE = InnChanged.NONE, UNKNOWN = InnChanged.UNKNOWN,
            OUTSIDE = InnChanged.OUTSIDE, NOT = InnChanged.NOT, FULL = InnChanged.FULL;
    private static final int MIN = Integer.MIN_VALUE, MAX = Integer.MAX_VALUE;
    /** Numbers of places of which the busy one has four. */
    private static final int[] NO_PLACE = {4, 5, 6, -1, -2, 32, MIN, MAX};

    public static void main(String[] args) {
        seenUnknown();
        seenOutside();
        seenTenAtMost();
        seenDoesNothing();
        forgetFewAndMany();
        fitFewAndMany();
        fitByPowers();
        liesRefused();
        liesFewAndMany();
        sureFewAndMany();
        oddsRefused();
        oddsInLowestTerms();
        nextRefused();
        nextFewAndMany();
        apartRefused();
        apartNoneToTell();
        apartFourAtMost();
        apartSixteen();
        cameRefused();
        cameByNights();
        cameByNightsThatWere();
        cameBySixChanges();
        cameBehindAnotherText();
        countRefused();
        countFewAndMany();
        Due.end();
    }

    private static void see(InnChanged x, int[]... rows) {
        int had = x.count(8);
        for (int[] row : rows) {
            had++;
            Due.due("21 seen", x.seen(row[0], row[1], row[2]), had);
        }
    }

    /** None fits: it worked and it did not. */
    private static InnChanged torn() {
        InnChanged x = Twins.busy();
        see(x, new int[] {0, 0, 1});
        Due.due("23 none fits", x.fit(), 0);
        return x;
    }

    private static InnChanged tenSeen() {
        InnChanged x = Twins.busyWithoutText();
        for (int i = 3; i <= 10; i++) {
            Due.due("21 seen", x.seen(3, 3, 1), i);
        }
        return x;
    }

    // ---- 21, 22

    private static void seenUnknown() {
        for (int p : NO_PLACE) {
            Twins.still("21 UNKNOWN " + p, Twins::busy, x -> x.seen(p, 0, 0), UNKNOWN);
            Twins.still("21 UNKNOWN ahead of OUTSIDE", Twins::busy, x -> x.seen(p, 4, 0), UNKNOWN);
            Twins.still("21 UNKNOWN ahead of OUTSIDE", Twins::busy, x -> x.seen(p, 0, 2), UNKNOWN);
            Twins.still("21 UNKNOWN ahead of FULL", EdgesSeenTest::tenSeen, x -> x.seen(p, 0, 0), UNKNOWN);
        }
    }

    private static void seenOutside() {
        for (int word : new int[] {-1, 4, 5, 32, MIN, MAX}) {
            Twins.still("21 OUTSIDE word " + word, Twins::busy, x -> x.seen(0, word, 0), OUTSIDE);
            Twins.still("21 OUTSIDE word " + word, Twins::busy, x -> x.seen(3, word, 1), OUTSIDE);
            Twins.still("21 OUTSIDE ahead of FULL", EdgesSeenTest::tenSeen, x -> x.seen(0, word, 0), OUTSIDE);
        }
        for (int worked : new int[] {-1, 2, 3, MIN, MAX}) {
            Twins.still("21 OUTSIDE worked " + worked, Twins::busy, x -> x.seen(0, 0, worked), OUTSIDE);
            Twins.still("21 OUTSIDE worked " + worked, Twins::busy, x -> x.seen(3, 3, worked), OUTSIDE);
            Twins.still("21 OUTSIDE ahead of FULL", EdgesSeenTest::tenSeen, x -> x.seen(0, 0, worked), OUTSIDE);
        }
        for (int word = 0; word < 4; word++) {
            for (int worked = 0; worked < 2; worked++) {
                InnChanged x = Due.told("guest;true 0 0 3;dull 0 0");
                Due.due("21 seen(1, " + word + ", " + worked + ")", x.seen(1, word, worked), 1);
                int fits = word == 3 ? 1 : worked == 1 ? 0 : 2;
                Due.due("23 by word " + word + " and " + worked, x.fit(), fits);
            }
        }
    }

    private static void seenTenAtMost() {
        for (int p = 0; p < 4; p++) {
            for (int worked = 0; worked < 2; worked++) {
                int place = p;
                int did = worked;
                Twins.still("21 FULL '10 at most'", EdgesSeenTest::tenSeen, x -> x.seen(place, 0, did), FULL);
            }
        }
        InnChanged x = Due.told("guest;true 0 0 0;true 0 0 1;true 0 0 2;true 0 0 3;dull 0 0;dull 0 0");
        see(x, new int[] {0, 3, 0}, new int[] {0, 3, 0}, new int[] {0, 3, 0}, new int[] {0, 3, 0}, new int[] {0, 3, 0},
                new int[] {0, 3, 0}, new int[] {0, 3, 0}, new int[] {0, 3, 0}, new int[] {0, 3, 0});
        Due.due("23 by nine", x.fit(), 600);
        Due.due("21 the tenth", x.seen(5, 3, 1), 10);
        Due.due("23 the tenth counts", x.fit(), 120);
        Due.due("21 the eleventh", x.seen(4, 2, 1), FULL);
        Due.due("23 the eleventh does not", x.fit(), 120);
        Due.due("22 all ten", x.forget(), 10);
        Due.due("21 there is room again", x.seen(4, 2, 1), 1);
        Due.tell(x, "night 0");
        Due.due("21 and behind a text", x.seen(4, 2, 1), 1);
    }

    private static void seenDoesNothing() {
        InnChanged x = Twins.busyWithoutText();
        Due.due("21 how many", x.seen(0, 0, 0), 3);
        Due.due("21 nothing is said", x.thing(0, 3), 3);
        Due.due("21 nothing is said", x.thing(0, 5), 2);
        Due.due("21 nobody finds out", x.count(5), 2);
        Due.due("22 forget", x.forget(), 3);
        InnChanged y = Twins.busyWithoutText();
        y.forget();
        Twins.same("21 nothing but SEEN changes", x, y);
    }

    private static void forgetFewAndMany() {
        Twins.still("22 nothing was seen", () -> Due.told("guest;dull 0 0"), InnChanged::forget, 0);
        InnChanged x = torn();
        Due.due("22 how many there were", x.forget(), 3);
        Due.due("22 none is left", x.forget(), 0);
        Due.due("23 all fit again", x.fit(), 4);
        Due.due("22 who knows is not forgotten", x.count(5), 2);
    }

    // ---- 23

    private static void fitFewAndMany() {
        Due.due("23 nothing lies nowhere: one way", new InnChanged().fit(), 1);
        int[] ways = {1, 2, 6, 24, 120, 720};
        for (int things = 1; things <= 6; things++) {
            InnChanged x = Due.told("guest;" + Due.lines("dull 2 0", things));
            Due.due("23 all ways of " + things, x.fit(), ways[things - 1]);
            Due.due("30 all ways of " + things, x.count(7), ways[things - 1]);
        }
        InnChanged y = Due.told("guest;true 0 0 0;true 1 0 0;true 2 0 0;dull 0 0;dull 1 0;dull 2 0");
        Due.due("23 three looks", y.fit(), 8);
        see(y, new int[] {0, 0, 1}, new int[] {1, 0, 1}, new int[] {2, 0, 1});
        Due.due("23 one is left", y.fit(), 1);
        see(y, new int[] {5, 0, 1});
        Due.due("23 none is left", y.fit(), 0);
        Due.due("30 arrangements are as many as ever", y.count(7), 8);
        Twins.still("23 nothing changes", Twins::busy, InnChanged::fit, 2);
        Twins.still("23 nothing changes", EdgesSeenTest::torn, InnChanged::fit, 0);
    }

    private static void fitByPowers() {
        InnChanged x = Due.told("guest;fading 0 0 1 1;dull 0 0");
        see(x, new int[] {0, 1, 1});
        Due.due("23 'POWERS being as they are now': 1", x.fit(), 1);
        x.keep(0);
        Due.due("13 it wears", x.say(0, 1), 1);
        Due.due("23 'POWERS being as they are now': 0", x.fit(), 0);
        x.back(0);
        Due.due("23 'POWERS being as they are now': 1 again", x.fit(), 1);
    }

    // ---- 24, 25

    private static void liesRefused() {
        for (int p : NO_PLACE) {
            Twins.still("24 UNKNOWN lies(" + p + ")", Twins::busy, x -> x.lies(p), UNKNOWN);
            Twins.still("24 UNKNOWN, none fits", EdgesSeenTest::torn, x -> x.lies(p), UNKNOWN);
        }
        int[] want = {2, 1, 12, 12};
        for (int p = 0; p < 4; p++) {
            int place = p;
            Twins.still("24 lies(" + p + ")", Twins::busy, x -> x.lies(place), want[p]);
            Twins.still("24 none fits: no bits", EdgesSeenTest::torn, x -> x.lies(place), 0);
        }
    }

    private static void liesFewAndMany() {
        InnChanged x = Due.told("guest;" + Due.lines("true 0 0 0", 6));
        InnChanged y = Due.told("guest;true 0 0 0;true 1 0 0;true 2 0 0;true 2 0 1");
        for (int p = 0; p < 6; p++) {
            Due.due("24 any of six", x.lies(p), 63);
        }
        int[] want = {1, 2, 12, 12};
        for (int p = 0; p < 4; p++) {
            Due.due("24 alone of its look", y.lies(p), want[p]);
        }
        Due.due("24 no fifth", y.lies(4), UNKNOWN);
    }

    private static void sureFewAndMany() {
        Due.due("25 no places", new InnChanged().sure(), 0);
        Due.due("25 one place", Due.told("guest;dull 0 0").sure(), 1);
        Due.due("25 three looks", Due.told("guest;dull 0 0;dull 1 0;dull 2 0").sure(), 7);
        Due.due("25 none is sure", Due.told("guest;" + Due.lines("dull 0 0", 6)).sure(), 0);
        Twins.still("25 nothing changes", Twins::busy, InnChanged::sure, 3);
        Twins.still("25 'none FITS: 0'", EdgesSeenTest::torn, InnChanged::sure, 0);
        InnChanged x = Due.told("guest;true 0 0 0;true 0 0 1;true 0 0 2;true 0 0 3;dull 0 0;dull 0 0");
        see(x, new int[] {5, 0, 1}, new int[] {4, 1, 1}, new int[] {3, 2, 1});
        Due.due("25 three", x.sure(), 56);
        see(x, new int[] {2, 3, 1});
        Due.due("25 two alike are not sure", x.sure(), 60);
        InnChanged y = Due.told("guest;true 0 0 0;true 0 0 1;true 0 0 2;true 0 0 3;true 1 0 0;dull 2 0");
        see(y, new int[] {3, 0, 1}, new int[] {2, 1, 1}, new int[] {1, 2, 1});
        Due.due("25 all six", y.sure(), 63);
    }

    // ---- 26

    private static void oddsRefused() {
        for (int p : NO_PLACE) {
            Twins.still("26 UNKNOWN odds(" + p + ", 0)", Twins::busy, x -> x.odds(p, 0), UNKNOWN);
            Twins.still("26 UNKNOWN ahead of OUTSIDE", Twins::busy, x -> x.odds(p, 2), UNKNOWN);
            Twins.still("26 UNKNOWN ahead of NOT", EdgesSeenTest::torn, x -> x.odds(p, 0), UNKNOWN);
        }
        for (int part : new int[] {-1, -2, 2, 3, MIN, MAX}) {
            Twins.still("26 OUTSIDE odds(0, " + part + ")", Twins::busy, x -> x.odds(0, part), OUTSIDE);
            Twins.still("26 OUTSIDE odds(3, " + part + ")", Twins::busy, x -> x.odds(3, part), OUTSIDE);
            Twins.still("26 OUTSIDE ahead of NOT", EdgesSeenTest::torn, x -> x.odds(0, part), OUTSIDE);
        }
        for (int p = 0; p < 4; p++) {
            int place = p;
            Twins.still("26 NOT: none fits", EdgesSeenTest::torn, x -> x.odds(place, 0), NOT);
            Twins.still("26 NOT: none fits", EdgesSeenTest::torn, x -> x.odds(place, 1), NOT);
            Twins.still("26 above", Twins::busy, x -> x.odds(place, 0), p == 0 ? 0 : 1);
            Twins.still("26 below", Twins::busy, x -> x.odds(place, 1), 1);
        }
    }

    private static void oddsInLowestTerms() {
        // so many charms of six in 720 ways
        int[][] want = {{0, 1}, {1, 6}, {1, 3}, {1, 2}, {2, 3}, {5, 6}, {1, 1}};
        for (int charms = 0; charms <= 6; charms++) {
            String text = "guest";
            for (int i = 0; i < 6; i++) {
                text += i < charms ? ";moody 0 0 1" : ";dull 0 0";
            }
            InnChanged x = Due.told(text);
            for (int p = 0; p < 6; p++) {
                Due.due("26 above, of " + charms, x.odds(p, 0), want[charms][0]);
                Due.due("26 below, of " + charms, x.odds(p, 1), want[charms][1]);
            }
        }
        InnChanged faded = Due.told("guest;fading 0 0 0 0");
        Due.due("26 a faded one is a charm", faded.odds(0, 0), 1);
        Due.due("26 a faded one is a charm", faded.odds(0, 1), 1);
    }

    // ---- 27

    private static void nextRefused() {
        for (int what : new int[] {-1, -2, 3, 4, MIN, MAX}) {
            Twins.still("27 OUTSIDE next(" + what + ")", Twins::busy, x -> x.next(what), OUTSIDE);
            Twins.still("27 OUTSIDE ahead of NONE: none fits", EdgesSeenTest::torn, x -> x.next(what), OUTSIDE);
            Twins.still("27 OUTSIDE ahead of NONE: no places", InnChanged::new, x -> x.next(what), OUTSIDE);
        }
        int[] want = {2, 2, 1};
        for (int what = 0; what < 3; what++) {
            int asked = what;
            Twins.still("27 next(" + what + ")", Twins::busy, x -> x.next(asked), want[what]);
            Twins.still("27 NONE: 'none FITS'", EdgesSeenTest::torn, x -> x.next(asked), NONE);
            Twins.still("27 NONE: 'there are no PLACES'", InnChanged::new, x -> x.next(asked), NONE);
            Twins.still("27 NONE: people alone", () -> Due.told("guest;night 1"), x -> x.next(asked), NONE);
        }
    }

    private static void next(String name, InnChanged x, int place, int word, int left) {
        Due.due("27 " + name + ": place", x.next(0), place);
        Due.due("27 " + name + ": word", x.next(1), word);
        Due.due("27 " + name + ": left", x.next(2), left);
    }

    private static void nextFewAndMany() {
        next("one thing", Due.told("guest;true 0 0 3"), 0, 0, 1);
        next("six dull ones", Due.told("guest;" + Due.lines("dull 0 0", 6)), 0, 0, 720);
        next("'of several the least PLACE'", Due.told("guest;dull 0 0;true 0 0 0;dull 1 0;true 1 0 0"), 0, 0, 2);
        next("'then WORD'", Due.told("guest;true 0 0 3;true 0 0 2"), 0, 2, 1);
        // a moody one works with its keeper alone, and he keeps the last place
        next("the last place and word", Due.told("host;guest;dull 0 0;dull 0 0;dull 1 0;dull 1 0;dull 2 0;moody 2 1 3"),
                5, 3, 4);
        InnChanged faded = Due.told("guest;fading 0 0 0 1;dull 0 0");
        next("power 1", faded, 0, 0, 1);
        faded.say(0, 0);
        next("power 0", faded, 0, 0, 2);
    }

    // ---- 28

    private static void apartRefused() {
        for (int i : new int[] {-2, -3, MIN}) {
            Twins.still("28 OUTSIDE 'i below NONE' " + i, Twins::busy, x -> x.apart(i), OUTSIDE);
            Twins.still("28 OUTSIDE with none that fits", EdgesSeenTest::torn, x -> x.apart(i), OUTSIDE);
            Twins.still("28 OUTSIDE with nothing there", InnChanged::new, x -> x.apart(i), OUTSIDE);
        }
        Twins.still("28 how many", Twins::busy, x -> x.apart(NONE), 1);
        Twins.still("28 the first", Twins::busy, x -> x.apart(0), 10);
        for (int i : new int[] {1, 2, 4, 5, MAX}) {
            Twins.still("28 NONE: 'there are not so many' " + i, Twins::busy, x -> x.apart(i), NONE);
        }
    }

    private static void apart(String name, InnChanged x, int... pairs) {
        Due.due("28 " + name + ": how many", x.apart(NONE), pairs.length);
        for (int i = 0; i < pairs.length; i++) {
            Due.due("28 " + name + ": pair " + i, x.apart(i), pairs[i]);
        }
        Due.due("28 " + name + ": no more", x.apart(pairs.length), NONE);
        Due.due("28 " + name + ": no more", x.apart(MAX), NONE);
    }

    private static void apartNot(String name, InnChanged x) {
        for (int i = NONE; i <= 5; i++) {
            Due.due("28 " + name + ": none, apart(" + i + ")", x.apart(i), NONE);
        }
    }

    private static void apartNoneToTell() {
        apart("nothing there", new InnChanged());
        apart("one thing", Due.told("guest;true 0 0 0"));
        apart("none fits", torn());
        apart("three looks", Due.told("guest;dull 0 0;dull 1 0;dull 2 0"));
        apartNot("two dull ones", Due.told("guest;dull 0 0;dull 0 0"));
        apartNot("two alike", Due.told("guest;true 0 0 1;true 0 0 1"));
        apartNot("two without power", Due.told("guest;fading 0 0 0 0;fading 0 0 1 0"));
    }

    private static void apartFourAtMost() {
        apart("one", Due.told("guest;dull 0 0;true 0 0 0"), 0);
        apart("two", Due.told("guest;dull 0 0;true 0 0 0;dull 1 0;true 1 0 3"), 0, 11);
        apart("three", Due.told("guest;dull 0 0;true 0 0 0;dull 1 0;true 1 0 3;dull 2 0;true 2 0 1"), 0, 11, 17);
        // six ways of three: two pairs tell four apart at the most, and no three do
        apart("four", Due.told("guest;dull 0 0;true 0 0 1;true 0 0 2"), 1, 2, 5, 6);
        apartNot("five would do", Due.told("guest;dull 0 0;true 0 0 1;true 0 0 2;dull 1 0;true 1 0 0"));
        // the last place alone tells: its keeper's moody one works with him
        apart("the last pair", Due.told("host;guest;dull 0 0;true 0 0 0;dull 1 0;true 1 0 0;dull 2 0;moody 2 1 3"),
                0, 8, 23);
    }

    /** Four answers tell sixteen apart, if each of them halves what the others leave. */
    private static void apartSixteen() {
        InnChanged x = Due.told("guest;dull 1 0;true 0 0 3;true 0 0 0;true 1 0 2;true 1 0 1;dull 0 0");
        see(x, new int[] {0, 1, 0}, new int[] {2, 3, 0});
        Due.due("23 sixteen fit", x.fit(), 16);
        apart("sixteen", x, 2, 7, 8, 13);
        see(x, new int[] {5, 0, 0}, new int[] {5, 3, 1});
        Due.due("23 eight fit", x.fit(), 8);
        apart("eight", x, 2, 4, 13);
        x.forget();
        see(x, new int[] {3, 2, 1}, new int[] {4, 1, 1}, new int[] {1, 3, 1}, new int[] {2, 0, 1});
        apart("one", x);
        InnChanged y = Due.told("guest;true 0 0 0;true 0 0 1;true 0 0 2;true 0 0 3");
        see(y, new int[] {0, 0, 0});
        Due.due("23 eighteen fit", y.fit(), 18);
        apartNot("eighteen", y);
        // as many as an int has bits
        InnChanged z = Due.told("guest;true 0 0 3;dull 0 0;true 0 0 3;true 0 0 0;dull 0 0");
        see(z, new int[] {3, 3, 0}, new int[] {1, 3, 0}, new int[] {2, 0, 0});
        Due.due("23 thirty-two fit", z.fit(), 32);
        apartNot("thirty-two", z);
        apartNot("all of six", Due.told("guest;" + Due.lines("dull 0 0", 6)));
    }

    // ---- 29

    private static void cameRefused() {
        for (int what : new int[] {-1, -2, 2, 3, MIN, MAX}) {
            Twins.still("29 OUTSIDE came(" + what + ")", Twins::busy, x -> x.came(what), OUTSIDE);
            Twins.still("29 OUTSIDE ahead of NONE", EdgesSeenTest::torn, x -> x.came(what), OUTSIDE);
        }
        for (int what = 0; what < 2; what++) {
            int asked = what;
            Twins.still("29 by one change, one", Twins::busy, x -> x.came(asked), 1);
            Twins.still("29 NONE: none fits", EdgesSeenTest::torn, x -> x.came(asked), NONE);
        }
    }

    private static void came(String name, InnChanged x, int fewest, int ways) {
        Due.due("29 " + name + ": the fewest changes", x.came(0), fewest);
        Due.due("29 " + name + ": how many", x.came(1), ways);
    }

    private static void cameByNights() {
        // true ones of one guest, who sleeps there each night, all gone on by one place
        InnChanged x = Due.told("guest;true 0 0 0;true 0 0 1;true 0 0 2;true 0 0 3;dull 0 0;dull 0 0");
        Due.tell(x, Due.lines("night 1", 6));
        came("no night was", x, 0, 1);
        see(x, new int[] {1, 0, 1}, new int[] {2, 1, 1}, new int[] {3, 2, 1}, new int[] {4, 3, 1});
        for (int passed = 0; passed < 4; passed++) {
            came("not in " + passed + " nights", x, NONE, NONE);
            x.pass(NONE, NONE);
        }
        came("a ring of five in four nights", x, 4, 1);
        x.pass(NONE, NONE);
        came("or one of six in five", x, 4, 2);
        x.pass(NONE, NONE);
        came("behind the last night", x, 4, 2);
        x.forget();
        came("all that fit", x, 0, 720);
    }

    private static void cameByNightsThatWere() {
        InnChanged x = Due.told("host;guest;dull 0 0;true 0 1 0;night 0;night 2;night 0");
        see(x, new int[] {0, 0, 1});
        x.keep(0);
        came("none was", x, NONE, NONE);
        x.pass(NONE, NONE);
        came("he did not sleep there in the night that was", x, NONE, NONE);
        x.pass(NONE, NONE);
        came("he did", x, 1, 1);
        x.pass(NONE, NONE);
        came("the last counts nothing", x, 1, 1);
        x.back(0);
        came("back ahead of all", x, NONE, NONE);
        InnChanged y = Due.told("host;dull 0 0;dull 0 0;night 0;night 0");
        y.pass(0, 1);
        came("what may have been, not what was", y, 0, 2);
        InnChanged z = Due.told("host;watcher;dull 0 0;true 0 1 0;night 2");
        z.pass(NONE, NONE);
        came("nothing goes from a watcher", z, 0, 1);
        see(z, new int[] {0, 0, 1});
        came("nothing goes from a watcher", z, NONE, NONE);
    }

    /** Each night only two neighbours sleep there, so that all turned round takes every night's change. */
    private static void cameBySixChanges() {
        InnChanged x = Due.told("guest;guest;guest;guest;true 0 0 0;true 0 1 1;true 0 2 2;true 0 3 3;"
                + "night 3;night 6;night 12;night 3;night 6;night 3");
        see(x, new int[] {0, 3, 1}, new int[] {1, 2, 1}, new int[] {2, 1, 1}, new int[] {3, 0, 1});
        for (int passed = 0; passed < 6; passed++) {
            came("not in " + passed + " nights", x, NONE, NONE);
            Due.due("12 none", x.pass(NONE, NONE), passed + 1);
        }
        came("by six changes in six nights", x, 6, 1);
        x.forget();
        came("all could have come", x, 0, 24);
        Due.due("17 two would do, by any nights", turnedRound().mend(NONE, 0), 2);
    }

    private static InnChanged turnedRound() {
        InnChanged x = Due.told("guest;guest;guest;guest;true 0 0 0;true 0 1 1;true 0 2 2;true 0 3 3;"
                + "night 3;night 6;night 12;night 3;night 6;night 3");
        int[] lesser = {0, 1, 2, 0, 1, 0};
        for (int n = 0; n < 6; n++) {
            Due.due("12 the one change that may be", x.pass(lesser[n], lesser[n] + 1), n + 1);
        }
        for (int p = 0; p < 4; p++) {
            Due.due("10 turned round", x.place(p, 1), 3 - p);
        }
        return x;
    }

    private static void cameBehindAnotherText() {
        InnChanged x = Due.told("host;dull 0 0;dull 0 0;dull 0 0;night 0;night 0");
        x.pass(NONE, NONE);
        x.pass(NONE, NONE);
        came("two nights", x, 0, 6);
        Due.tell(x, "inn;guest;dull 0 0;dull 1 0;dull 0 0;dull 1 0;night 1;night 1");
        came("another text", x, 0, 1);
        x.pass(NONE, NONE);
        came("of two looks", x, 0, 3);
        x.pass(NONE, NONE);
        came("of two looks", x, 0, 4);
        Due.tell(x, "inn");
        came("nothing is left", x, 0, 1);
    }

    // ---- 30

    private static void countRefused() {
        for (int what : new int[] {-1, -2, 10, 11, 32, MIN, MAX}) {
            Twins.still("30 OUTSIDE count(" + what + ")", Twins::busy, x -> x.count(what), OUTSIDE);
            Twins.still("30 OUTSIDE count(" + what + ")", InnChanged::new, x -> x.count(what), OUTSIDE);
        }
        int[] want = {4, 4, 3, 1, 1, 2, 12, 4, 2, 3};
        for (int what = 0; what < 10; what++) {
            int asked = what;
            Twins.still("30 count(" + what + ")", Twins::busy, x -> x.count(asked), want[what]);
        }
    }

    private static void countFewAndMany() {
        InnChanged x = Due.told("host;guest;guest;guest;guest;" + Due.lines("fading 0 4 0 0", 6));
        Due.tell(x, Due.lines("night 16", 6));
        int[] full = {5, 6, 6, 0, 0, 0, 63, 720, 0, 0};
        for (int what = 0; what < 10; what++) {
            Due.due("30 all that can be told, count(" + what + ")", x.count(what), full[what]);
        }
        for (int n = 0; n < 5; n++) {
            x.pass(n, n + 1);
        }
        x.pass(NONE, NONE);
        x.say(0, 0);
        for (int i = 0; i < 10; i++) {
            x.seen(0, 0, 0);
        }
        Due.write(x, " ".repeat(160));
        int[] late = {5, 6, 6, 6, 5, 16, 0, 720, 10, 160};
        for (int what = 0; what < 10; what++) {
            Due.due("30 all that can be done, count(" + what + ")", x.count(what), late[what]);
        }
    }
}
