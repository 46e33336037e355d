/** Promises 21 to 30: what was seen, and the counts. */
public final class SeenTest {
    private static final int NONE = InnChanged.NONE, UNKNOWN = InnChanged.UNKNOWN,
            OUTSIDE = InnChanged.OUTSIDE, NOT = InnChanged.NOT, FULL = InnChanged.FULL;

    public static void main(String[] args) {
        seenAndForget();
        fit();
        fitOfMoody();
        fitByPowersNow();
        lies();
        sure();
        odds();
        next();
        apart();
        apartInFour();
        apartTakesTheLeast();
        came();
        cameBack();
        sixThingsAndNights();
        count();
        Due.end();
    }

    private static void seenAndForget() {
        InnChanged x = Due.told("guest;true 0 0 0;dull 0 0");
        Due.due("21 unknown", x.seen(2, 0, 0), UNKNOWN);
        Due.due("21 unknown", x.seen(-1, 4, 2), UNKNOWN);
        Due.due("21 outside", x.seen(0, 4, 0), OUTSIDE);
        Due.due("21 outside", x.seen(0, -1, 0), OUTSIDE);
        Due.due("21 outside", x.seen(0, 0, 2), OUTSIDE);
        Due.due("21 outside", x.seen(0, 0, -1), OUTSIDE);
        for (int i = 1; i <= 10; i++) {
            Due.due("21 seen", x.seen(0, 0, 1), i);
        }
        Due.due("21 full", x.seen(0, 0, 1), FULL);
        Due.due("21 outside ahead of full", x.seen(0, 0, 2), OUTSIDE);
        Due.due("21 unknown ahead of full", x.seen(2, 0, 0), UNKNOWN);
        Due.due("21 count", x.count(8), 10);
        Due.due("21 fit", x.fit(), 1);
        Due.due("22 forget", x.forget(), 10);
        Due.due("22 count", x.count(8), 0);
        Due.due("22 fit", x.fit(), 2);
        Due.due("22 forget again", x.forget(), 0);
        Due.due("21 anew", x.seen(1, 0, 1), 1);
        Due.due("21 nothing is said by it", x.thing(0, 5), 0);
    }

    private static void fit() {
        InnChanged x = Due.told("guest;true 0 0 0;true 0 0 1;dull 0 0;true 1 0 0;dull 1 0");
        Due.due("23 all", x.fit(), 12);
        x.seen(0, 0, 0);
        Due.due("23 not that one", x.fit(), 8);
        x.seen(2, 0, 1);
        Due.due("23 it lies there", x.fit(), 4);
        x.seen(3, 0, 1);
        Due.due("23 of the other look", x.fit(), 2);
        x.seen(1, 0, 1);
        Due.due("23 none", x.fit(), 0);
        Due.due("23 lies", x.lies(0), 0);
        Due.due("23 sure", x.sure(), 0);
        Due.due("23 odds", x.odds(0, 0), NOT);
        Due.due("23 next", x.next(2), NONE);
        Due.due("23 apart: nothing to tell", x.apart(NONE), 0);
        Due.due("23 came", x.came(0), NONE);
        Due.due("23 came", x.came(1), NONE);
    }

    private static void fitOfMoody() {
        InnChanged x = Due.told("guest;lender;guest;moody 0 0 2;dull 0 1;dull 0 2;dull 0 0");
        Due.due("23 all", x.fit(), 24);
        x.seen(0, 2, 0);
        x.seen(1, 2, 0);
        Due.due("23 with the third, or his other place", x.fit(), 12);
        Due.due("24 lies", x.lies(2), 15);
        x.seen(3, 2, 0);
        Due.due("23 with the third, where it does not work", x.fit(), 6);
        Due.due("24 lies", x.lies(2), 1);
        x.forget();
        x.seen(1, 2, 1);
        Due.due("23 with the lender it works", x.fit(), 6);
        x.seen(2, 2, 1);
        Due.due("23 not at two places", x.fit(), 0);
    }

    private static void fitByPowersNow() {
        InnChanged x = Due.told("guest;fading 0 0 1 1;dull 0 0;true 0 0 1");
        x.seen(0, 1, 0);
        Due.due("23 the dull one", x.fit(), 2);
        x.say(0, 1);
        Due.due("23 or the faded one", x.fit(), 4);
        Due.due("24 lies", x.lies(0), 3);
        x.keep(0);
        x.forget();
        x.seen(0, 1, 1);
        Due.due("23 the true one alone", x.lies(0), 4);
    }

    private static void lies() {
        InnChanged x = Due.told("guest;true 0 0 0;true 1 0 0;dull 0 0;dull 1 0;true 0 0 3");
        Due.due("24 all of its look", x.lies(0), 21);
        Due.due("24 all of its look", x.lies(1), 10);
        x.seen(0, 3, 1);
        Due.due("24 one", x.lies(0), 16);
        Due.due("24 the others", x.lies(2), 5);
        Due.due("24 the others", x.lies(4), 5);
        x.seen(2, 0, 0);
        Due.due("24 what is left", x.lies(4), 1);
        Due.due("24 unknown", x.lies(5), UNKNOWN);
        Due.due("24 unknown", x.lies(-1), UNKNOWN);
    }

    private static void sure() {
        InnChanged x = Due.told("guest;true 0 0 0;true 1 0 0;dull 0 0;dull 2 0;true 0 0 3");
        Due.due("25 those alone of their look", x.sure(), 10);
        x.seen(0, 3, 1);
        Due.due("25 one more", x.sure(), 11);
        x.seen(2, 0, 0);
        Due.due("25 all", x.sure(), 31);
        x.seen(2, 0, 1);
        Due.due("25 none fits", x.sure(), 0);
    }

    private static void odds() {
        InnChanged x = Due.told("guest;true 0 0 0;moody 0 0 1;dull 0 0;fading 0 0 2 0;dull 0 0;dull 0 0");
        Due.due("26 above", x.odds(0, 0), 1);
        Due.due("26 below", x.odds(0, 1), 2);
        x.seen(0, 0, 0);
        // four in five ways it is another one: two charms of five
        Due.due("26 above", x.odds(0, 0), 2);
        Due.due("26 below", x.odds(0, 1), 5);
        x.seen(1, 0, 1);
        Due.due("26 sure", x.odds(1, 0), 1);
        Due.due("26 sure", x.odds(1, 1), 1);
        Due.due("26 unknown", x.odds(6, 0), UNKNOWN);
        Due.due("26 unknown", x.odds(-1, 2), UNKNOWN);
        Due.due("26 outside", x.odds(0, 2), OUTSIDE);
        Due.due("26 outside", x.odds(0, -1), OUTSIDE);
        x.seen(1, 0, 0);
        Due.due("26 none fits", x.odds(0, 0), NOT);
        Due.due("26 outside ahead of not", x.odds(0, 2), OUTSIDE);
        Due.due("26 unknown ahead of not", x.odds(6, 0), UNKNOWN);
        InnChanged y = Due.told("guest;dull 0 0;true 1 0 0");
        Due.due("26 never", y.odds(0, 0), 0);
        Due.due("26 never", y.odds(0, 1), 1);
    }

    private static void next() {
        InnChanged x = Due.told("guest;dull 0 0;true 0 0 1;true 0 0 1;true 1 0 2;dull 1 0");
        // at each of the first three word 1 works by 4 of 6 ways; of the others by half
        Due.due("27 place", x.next(0), 3);
        Due.due("27 word", x.next(1), 2);
        Due.due("27 left", x.next(2), 6);
        x.seen(3, 2, 1);
        Due.due("27 place", x.next(0), 0);
        Due.due("27 word", x.next(1), 1);
        Due.due("27 left", x.next(2), 4);
        x.seen(0, 1, 0);
        Due.due("27 nothing helps: place", x.next(0), 0);
        Due.due("27 nothing helps: word", x.next(1), 0);
        Due.due("27 nothing helps: left", x.next(2), 2);
        Due.due("27 outside", x.next(3), OUTSIDE);
        Due.due("27 outside", x.next(-1), OUTSIDE);
        x.seen(0, 1, 1);
        Due.due("27 none fits", x.next(0), NONE);
        Due.due("27 outside ahead of none", x.next(3), OUTSIDE);
        InnChanged empty = new InnChanged();
        for (int what = 0; what < 3; what++) {
            Due.due("27 no places", empty.next(what), NONE);
        }
        InnChanged y = Due.told("host;guest;moody 0 1 3;dull 0 0");
        // with the host it never works, so there nothing is found out
        Due.due("27 moody: place", y.next(0), 0);
        Due.due("27 moody: word", y.next(1), 3);
        Due.due("27 moody: left", y.next(2), 1);
    }

    private static void apart() {
        InnChanged x = Due.told("guest;dull 0 0;true 0 0 1;true 0 0 2");
        // where one of the true ones lies takes two pairs, and then where the other one lies takes two more
        Due.due("28 pairs", x.apart(NONE), 4);
        Due.due("28 first", x.apart(0), 1);
        Due.due("28 second", x.apart(1), 2);
        Due.due("28 third", x.apart(2), 5);
        Due.due("28 fourth", x.apart(3), 6);
        Due.due("28 not so many", x.apart(4), NONE);
        Due.due("28 not so many", x.apart(Integer.MAX_VALUE), NONE);
        Due.due("28 outside", x.apart(-2), OUTSIDE);
        Due.due("28 outside", x.apart(Integer.MIN_VALUE), OUTSIDE);
        x.seen(0, 1, 0);
        x.seen(0, 2, 0);
        Due.due("28 one pair", x.apart(NONE), 1);
        Due.due("28 that of place 1", x.apart(0), 5);
        x.seen(1, 1, 1);
        Due.due("28 all are told", x.apart(NONE), 0);
        Due.due("28 all are told", x.apart(0), NONE);
        InnChanged y = Due.told("guest;dull 0 0;dull 0 0");
        Due.due("28 two dull ones", y.apart(NONE), NONE);
        Due.due("28 two dull ones", y.apart(0), NONE);
        Due.due("28 nothing", new InnChanged().apart(NONE), 0);
    }

    private static void apartInFour() {
        InnChanged x = Due.told("guest;dull 0 0;true 0 0 0;dull 1 0;true 1 0 0;dull 2 0;true 2 0 0");
        Due.due("28 three looks", x.apart(NONE), 3);
        Due.due("28 three looks", x.apart(0), 0);
        Due.due("28 three looks", x.apart(1), 8);
        Due.due("28 three looks", x.apart(2), 16);
        InnChanged y = Due.told("guest;true 0 0 0;true 0 0 1;true 0 0 2;true 1 0 1;true 1 0 3");
        Due.due("28 twelve ways", y.fit(), 12);
        Due.due("28 five would do, four do not", y.apart(NONE), NONE);
        Due.due("28 five would do, four do not", y.apart(0), NONE);
        InnChanged z = Due.told("guest;true 0 0 0;true 0 0 1;true 0 0 2;true 0 0 3");
        Due.due("28 too many ways", z.apart(NONE), NONE);
        z.seen(0, 0, 0);
        Due.due("28 eighteen, still too many", z.apart(NONE), NONE);
        z.seen(0, 1, 0);
        Due.due("28 twelve", z.fit(), 12);
    }

    private static void apartTakesTheLeast() {
        InnChanged x = Due.told("guest;true 0 0 3;true 0 0 1");
        Due.due("28 one pair of four", x.apart(NONE), 1);
        Due.due("28 the least", x.apart(0), 1);
        // a moody one does not work with the host, wherever it is asked there
        InnChanged y = Due.told("host;guest;dull 0 0;moody 0 1 2;night 2");
        Due.due("28 one pair", y.apart(NONE), 1);
        Due.due("28 with the guest", y.apart(0), 6);
        // one that has faded is not told from a dull one
        InnChanged z = Due.told("guest;fading 0 0 0 1;dull 0 0");
        Due.due("28 one pair", z.apart(NONE), 1);
        z.say(0, 0);
        Due.due("28 none", z.apart(NONE), NONE);
    }

    private static void came() {
        InnChanged x = Due.told("host;guest;true 0 1 0;true 0 1 1;dull 0 0;night 2;night 0;night 2");
        Due.due("29 as it was", x.came(0), 0);
        Due.due("29 as it was", x.came(1), 1);
        x.seen(0, 0, 0);
        Due.due("29 it could not have come", x.came(0), NONE);
        Due.due("29 it could not have come", x.came(1), NONE);
        x.pass(NONE, NONE);
        Due.due("29 by one change", x.came(0), 1);
        Due.due("29 in two ways", x.came(1), 2);
        x.seen(1, 0, 1);
        x.seen(2, 1, 1);
        Due.due("29 a ring of three in one night", x.came(0), NONE);
        x.pass(NONE, NONE);
        Due.due("29 the guest did not sleep there", x.came(0), NONE);
        x.pass(NONE, NONE);
        Due.due("29 by two changes", x.came(0), 2);
        Due.due("29 one", x.came(1), 1);
        x.forget();
        Due.due("29 fewest of any", x.came(0), 0);
        Due.due("29 all", x.came(1), 6);
        Due.due("29 outside", x.came(2), OUTSIDE);
        Due.due("29 outside", x.came(-1), OUTSIDE);
        InnChanged y = Due.told("host;watcher;true 0 1 0;dull 0 0;night 2");
        y.pass(NONE, NONE);
        y.seen(1, 0, 1);
        Due.due("29 nothing comes from a watcher", y.came(0), NONE);
        Due.due("29 none FITS that came", y.came(1), NONE);
        Due.due("29 though it fits", y.fit(), 1);
    }

    private static void cameBack() {
        InnChanged x = Due.told("host;dull 0 0;dull 0 0;dull 0 0;dull 0 0;night 0;night 0;night 0;night 0");
        int[] reached = {1, 7, 18, 24, 24};
        x.keep(0);
        for (int passed = 0; passed <= 4; passed++) {
            Due.due("29 reached", x.came(1), reached[passed]);
            x.pass(NONE, NONE);
        }
        x.back(0);
        Due.due("29 back at the first night", x.came(1), 1);
        x.pass(NONE, NONE);
        Due.due("29 and on again", x.came(1), 7);
        Due.tell(x, "dull 0 0");
        Due.due("29 another text", x.came(1), 1);
        x.pass(NONE, NONE);
        Due.due("29 another text", x.came(1), 11);
    }

    /** As many of all as there can be, and every row to its end. */
    private static void sixThingsAndNights() {
        InnChanged x = Due.told("host;guest;dull 0 0;dull 0 0;dull 0 0;true 0 1 0;true 0 1 1;true 0 1 2");
        Due.tell(x, "night 2;night 2;night 2;night 2;night 2;night 2");
        Due.due("19 charms", x.plan(0), 3);
        Due.due("19 changes", x.plan(1), 3);
        Due.due("20 none as long as can be", x.planned(2, 0), NONE);
        Due.due("20 the first", x.planned(3, 1), 3);
        Due.due("20 the last", x.planned(5, 0), 2);
        Due.due("20 the last", x.planned(5, 1), 5);
        Due.due("23 fit", x.fit(), 720);
        Due.due("24 lies", x.lies(5), 63);
        Due.due("26 odds", x.odds(5, 1), 2);
        Due.due("27 next", x.next(2), 600);
        Due.due("28 apart", x.apart(NONE), NONE);
        Due.due("29 came", x.came(1), 1);
        int[][] changes = {{0, 1}, {1, 2}, {2, 3}, {3, 4}, {4, 5}};
        int[] reached = {16, 101, 326, 600, 720};
        for (int i = 0; i < 5; i++) {
            Due.due("12 pass", x.pass(changes[i][0], changes[i][1]), i + 1);
            Due.due("29 came", x.came(1), reached[i]);
        }
        Due.due("16 one ring", x.rings(), 1);
        Due.due("17 mend", x.mend(NONE, 0), 5);
        Due.due("17 the last step", x.mend(4, 0), 4);
        Due.due("17 the last step", x.mend(4, 1), 5);
        // true ones of words 0, 1, 2 lie in places 2, 3, 4
        x.seen(2, 0, 1);
        x.seen(3, 1, 1);
        x.seen(4, 2, 1);
        Due.due("23 fit", x.fit(), 6);
        Due.due("29 three true ones went on by one", x.came(0), 3);
        Due.due("29 came", x.came(1), 6);
        Due.due("12 pass", x.pass(NONE, NONE), 6);
        Due.due("29 came", x.came(1), 6);
    }

    private static void count() {
        InnChanged x = Due.told("host;guest;true 0 1 0;dull 0 0;dull 1 0;dull 1 0;dull 1 1;night 2;night 2");
        x.pass(0, 1);
        x.say(0, 0);
        x.seen(0, 0, 0);
        Due.write(x, "gu");
        int[] want = {2, 5, 2, 1, 1, 2, 28, 12, 1, 2};
        for (int what = 0; what < 10; what++) {
            Due.due("30 count(" + what + ")", x.count(what), want[what]);
        }
        Due.due("30 outside", x.count(10), OUTSIDE);
        Due.due("30 outside", x.count(-1), OUTSIDE);
        InnChanged y = Due.told("host;dull 0 0;dull 0 0;dull 0 0;dull 0 0;dull 0 0;dull 0 0");
        Due.due("30 most arrangements", y.count(7), 720);
        Due.due("30 outside", new InnChanged().count(10), OUTSIDE);
    }
}
