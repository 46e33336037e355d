/** Boundary cases of promises 11 to 15: nights, words, what is kept, sentence by sentence. */
public final class EdgesNightsTest {
    private static final int NONE = InnChanged.NONE, UNKNOWN = InnChanged.UNKNOWN,
            OUTSIDE = InnChanged.OUTSIDE, NOT = InnChanged.NOT;
    private static final int MIN = Integer.MIN_VALUE, MAX = Integer.MAX_VALUE;
    /** Numbers of things of which the busy one has four, NONE not among them. */
    private static final int[] NO_PLACE = {4, 5, 6, -2, -3, 32, MIN, MAX};

    public static void main(String[] args) {
        mayUnknown();
        mayOutside();
        mayByLook();
        mayByKeeper();
        mayInAnyNight();
        passUnknown();
        passOutside();
        passNotMayBe();
        passNoFurtherNight();
        passWithoutChange();
        oneChangeANight();
        sayRefused();
        sayWords();
        sayFading();
        sayMoody();
        whoKnows();
        keepRefused();
        backRefused();
        keptIsAll();
        keptAtBothEnds();
        keptSinceTheLastText();
        Due.end();
    }

    // ---- 11

    private static void mayUnknown() {
        for (int night : new int[] {-1, -2, 3, 4, 6, 32, MIN, MAX}) {
            Twins.still("11 UNKNOWN night " + night, Twins::busy, x -> x.may(night, 0, 1), UNKNOWN);
            Twins.still("11 UNKNOWN ahead of OUTSIDE", Twins::busy, x -> x.may(night, 0, 0), UNKNOWN);
        }
        for (int p : NO_PLACE) {
            Twins.still("11 UNKNOWN place " + p, Twins::busy, x -> x.may(0, p, 1), UNKNOWN);
            Twins.still("11 UNKNOWN other place " + p, Twins::busy, x -> x.may(0, 1, p), UNKNOWN);
            Twins.still("11 UNKNOWN ahead of OUTSIDE " + p, Twins::busy, x -> x.may(0, p, p), UNKNOWN);
        }
        Twins.still("11 NONE is no place", Twins::busy, x -> x.may(0, NONE, 0), UNKNOWN);
        Twins.still("11 NONE is no place", Twins::busy, x -> x.may(0, 0, NONE), UNKNOWN);
        Twins.still("11 NONE is no place", Twins::busy, x -> x.may(0, NONE, NONE), UNKNOWN);
    }

    private static void mayOutside() {
        for (int p = 0; p < 4; p++) {
            for (int n = 0; n < 3; n++) {
                int place = p;
                int night = n;
                Twins.still("11 OUTSIDE 'a PLACE and itself' " + p, Twins::busy, x -> x.may(night, place, place), OUTSIDE);
            }
        }
    }

    private static void mayByLook() {
        InnChanged x = Due.told("host;dull 0 0;dull 1 0;dull 2 0;dull 0 0;dull 1 0;dull 2 0;night 0");
        for (int a = 0; a < 6; a++) {
            for (int b = 0; b < 6; b++) {
                if (a != b) {
                    Due.due("11 'of one LOOK' " + a + " " + b, x.may(0, a, b), a % 3 == b % 3 ? 1 : 0);
                }
            }
        }
    }

    private static void mayByKeeper() {
        // places 0 to 3: of a guest, a watcher, a lender, a host who do not sleep there; 4, 5: of the host
        InnChanged x = Due.told("guest;watcher;lender;host;dull 0 0;dull 0 1;dull 0 2;dull 0 3;dull 0 3;dull 0 3;night 0;night 7;night 15");
        int[][] want = {{0, 0, 0, 1}, {1, 0, 1, 1}, {1, 0, 1, 1}};
        for (int n = 0; n < 3; n++) {
            for (int p = 0; p < 4; p++) {
                Due.due("11 with the host, night " + n + " place " + p, x.may(n, p, 5), want[n][p]);
                Due.due("11 the other way round", x.may(n, 5, p), want[n][p]);
            }
        }
        Due.due("11 two who sleep there, no host", x.may(1, 0, 2), 1);
        Due.due("11 'is no WATCHER'", x.may(1, 0, 1), 0);
        InnChanged y = Due.told("watcher;dull 0 0;dull 0 0;night 1");
        Due.due("11 a watcher's two", y.may(0, 0, 1), 0);
        InnChanged z = Due.told("guest;guest;dull 0 0;dull 0 1;dull 0 0;night 1;night 2;night 3");
        int[] both = {0, 0, 1};
        for (int n = 0; n < 3; n++) {
            Due.due("11 'each of both'", z.may(n, 0, 1), both[n]);
        }
        Due.due("11 one guest's two, he sleeps there", z.may(0, 0, 2), 1);
        Due.due("11 one guest's two, he does not", z.may(1, 0, 2), 0);
    }

    private static void mayInAnyNight() {
        InnChanged x = Due.told("host;guest;dull 0 0;dull 0 1;night 2;night 0;night 0;night 0;night 0;night 2");
        for (int passed = 0; passed <= 6; passed++) {
            Due.due("11 the first night", x.may(0, 0, 1), 1);
            Due.due("11 the second", x.may(1, 0, 1), 0);
            Due.due("11 the last night", x.may(5, 0, 1), 1);
            Due.due("11 no seventh", x.may(6, 0, 1), UNKNOWN);
            x.pass(NONE, NONE);
        }
    }

    // ---- 12

    private static void passUnknown() {
        for (int p : NO_PLACE) {
            Twins.still("12 UNKNOWN " + p, Twins::busy, x -> x.pass(p, 0), UNKNOWN);
            Twins.still("12 UNKNOWN other " + p, Twins::busy, x -> x.pass(0, p), UNKNOWN);
            Twins.still("12 UNKNOWN ahead of OUTSIDE: itself " + p, Twins::busy, x -> x.pass(p, p), UNKNOWN);
            Twins.still("12 UNKNOWN ahead of OUTSIDE: one NONE " + p, Twins::busy, x -> x.pass(p, NONE), UNKNOWN);
            Twins.still("12 UNKNOWN ahead of OUTSIDE: one NONE " + p, Twins::busy, x -> x.pass(NONE, p), UNKNOWN);
            Twins.still("12 UNKNOWN ahead of NOT " + p, Twins::late, x -> x.pass(0, p), UNKNOWN);
        }
    }

    private static void passOutside() {
        for (int p = 0; p < 4; p++) {
            int place = p;
            Twins.still("12 OUTSIDE itself " + p, Twins::busy, x -> x.pass(place, place), OUTSIDE);
            Twins.still("12 OUTSIDE 'one of both is NONE' " + p, Twins::busy, x -> x.pass(place, NONE), OUTSIDE);
            Twins.still("12 OUTSIDE 'one of both is NONE' " + p, Twins::busy, x -> x.pass(NONE, place), OUTSIDE);
            Twins.still("12 OUTSIDE ahead of NOT: itself " + p, Twins::late, x -> x.pass(place, place), OUTSIDE);
            Twins.still("12 OUTSIDE ahead of NOT: one NONE " + p, Twins::late, x -> x.pass(place, NONE), OUTSIDE);
            Twins.still("12 OUTSIDE ahead of NOT: one NONE " + p, Twins::late, x -> x.pass(NONE, place), OUTSIDE);
        }
    }

    private static void passNotMayBe() {
        Twins.still("12 NOT: another look", Twins::busy, x -> x.pass(0, 2), NOT);
        Twins.still("12 NOT: another look, both the host's", Twins::busy, x -> x.pass(1, 3), NOT);
        Twins.still("12 NOT: the lender sleeps there in other nights", Twins::busy, x -> x.pass(2, 3), NOT);
        Twins.still("12 NOT: a watcher's", () -> Due.told("host;watcher;dull 0 0;dull 0 1;night 3"),
                x -> x.pass(0, 1), NOT);
        InnChanged x = Twins.busy();
        Due.due("12 it may be in this night", x.pass(1, 0), 2);
        Due.due("12 but not in the next", x.pass(1, 0), NOT);
        Due.due("12 though this may be", x.pass(3, 2), 3);
    }

    private static void passNoFurtherNight() {
        Twins.still("12 NOT: no further night, none", Twins::late, x -> x.pass(NONE, NONE), NOT);
        Twins.still("12 NOT: no further night", Twins::late, x -> x.pass(0, 1), NOT);
        Twins.still("12 NOT: no night at all", () -> Due.told("host;dull 0 0;dull 0 0"), x -> x.pass(0, 1), NOT);
        Twins.still("12 NOT: no night at all, none", () -> Due.told("host"), x -> x.pass(NONE, NONE), NOT);
        InnChanged x = Due.told("host;dull 0 0;dull 0 0;" + Due.lines("night 0", 6));
        for (int n = 0; n < 6; n++) {
            Due.due("12 how many nights passed", x.pass(n % 2, 1 - n % 2), n + 1);
        }
        Due.due("12 no seventh", x.pass(0, 1), NOT);
        Due.due("12 no seventh", x.pass(NONE, NONE), NOT);
        Due.due("30 six passed", x.count(3), 6);
        Due.due("30 six changes", x.count(4), 6);
        InnChanged y = Due.told(Due.lines("night 0", 6));
        for (int n = 0; n < 6; n++) {
            Due.due("12 a night without places", y.pass(NONE, NONE), n + 1);
        }
        Due.due("12 no seventh", y.pass(NONE, NONE), NOT);
    }

    private static void passWithoutChange() {
        InnChanged x = Twins.busyWithoutText();
        Due.due("12 none", x.pass(NONE, NONE), 2);
        Due.due("30 no change more", x.count(4), 1);
        Due.due("10 no change more", x.place(0, 2), 1);
        Due.due("30 all lie where they lay", x.count(6), 12);
    }

    private static void oneChangeANight() {
        InnChanged x = Due.told("host;dull 0 0;dull 0 0;dull 0 0;dull 0 0;night 0");
        Due.due("12 a change", x.pass(0, 1), 1);
        Due.due("12 'In a NIGHT there is one CHANGE at most'", x.pass(2, 3), NOT);
        Due.due("30 that one", x.count(6), 12);
    }

    // ---- 13

    private static void sayRefused() {
        for (int p : NO_PLACE) {
            Twins.still("13 UNKNOWN " + p, Twins::busy, x -> x.say(p, 0), UNKNOWN);
            Twins.still("13 UNKNOWN ahead of OUTSIDE " + p, Twins::busy, x -> x.say(p, 4), UNKNOWN);
        }
        Twins.still("13 NONE is no place", Twins::busy, x -> x.say(NONE, 0), UNKNOWN);
        for (int word : new int[] {-1, 4, 5, 32, MIN, MAX}) {
            for (int p = 0; p < 4; p++) {
                int place = p;
                Twins.still("13 OUTSIDE say(" + p + ", " + word + ")", Twins::busy, x -> x.say(place, word), OUTSIDE);
            }
        }
    }

    private static void sayWords() {
        InnChanged x = Due.told("host;true 0 0 0;true 0 0 1;true 0 0 2;true 0 0 3;dull 0 0;night 0");
        for (int p = 0; p < 5; p++) {
            for (int word = 0; word < 4; word++) {
                Due.due("13 say(" + p + ", " + word + ")", x.say(p, word), p == word ? 1 : 0);
            }
        }
        Twins.still("13 a word that does nothing", Twins::busyWithoutText, y -> y.say(0, 1), 0);
        Twins.still("13 to a dull one of the host", Twins::busyWithoutText, y -> y.say(3, 0), 0);
    }

    private static void sayFading() {
        InnChanged x = Due.told("guest;fading 0 0 2 1;night 1");
        Due.due("13 'its POWER is above 0': 1", x.say(0, 2), 1);
        Due.due("13 'then that is 1 less'", x.thing(0, 3), 0);
        Due.due("13 nobody knows", x.count(5), 0);
        Due.due("13 'its POWER is above 0': 0", x.say(0, 2), 0);
        Due.due("13 it is not less", x.thing(0, 3), 0);
        Due.due("13 he knows, though it is his own", x.count(5), 1);
        Twins.still("13 another word does not wear it", () -> Due.told("guest;fading 0 0 2 1"), y -> y.say(0, 1), 0);
    }

    private static void sayMoody() {
        InnChanged x = Due.told("guest;guest;lender;host;moody 0 0 0;dull 0 1;dull 0 2;dull 0 3;dull 0 0;"
                + "night 15;night 15;night 15;night 15;night 15");
        // it goes round: to another guest, to the lender, to the host, to its keeper's other place, home
        int[] way = {0, 1, 2, 3, 4, 0};
        int[] works = {1, 0, 1, 0, 1, 1};
        for (int i = 0; i < 6; i++) {
            Due.due("13 moody in place " + way[i], x.say(way[i], 0), works[i]);
            Due.due("13 moody, a wrong word", x.say(way[i], 1), 0);
            if (i < 5) {
                Due.due("12 a change", x.pass(way[i], way[i + 1]), i + 1);
            }
        }
        Due.due("8 it worked", x.thing(0, 5), 4);
        InnChanged y = Due.told("host;moody 0 0 3");
        Due.due("13 the host's own", y.say(0, 3), 1);
    }

    private static void whoKnows() {
        // the host's, a guest's, a watcher's, a lender's: each a faded one of word 1; and dull ones, word 0
        String text = "host;guest;watcher;lender;fading 0 0 1 0;fading 0 1 1 0;fading 0 2 1 0;fading 0 3 1 0;dull 0 1";
        int[] known = {0, 2, 4, 8};
        for (int p = 0; p < 4; p++) {
            int place = p;
            InnChanged x = Due.told(text);
            Due.due("13 it does not work", x.say(place, 1), 0);
            Due.due("13 'A KEEPER who is no HOST KNOWS'", x.count(5), known[p]);
            Due.due("13 again", x.say(place, 1), 0);
            Due.due("13 'from then on'", x.count(5), known[p]);
            Twins.still("13 'and has that WORD': another", () -> Due.told(text), y -> y.say(place, 0), 0);
        }
        Twins.still("13 'no DULL one': its word is 0", () -> Due.told(text), y -> y.say(4, 0), 0);
        InnChanged all = Due.told("guest;watcher;lender;guest;guest;" + "fading 0 0 0 0;fading 0 1 0 0;fading 0 2 0 0;"
                + "fading 0 3 0 0;fading 0 4 0 0");
        for (int p = 0; p < 5; p++) {
            Due.due("30 by bits", all.count(5), (1 << p) - 1);
            Due.due("13 it does not work", all.say(p, 0), 0);
        }
        Due.due("30 all five", all.count(5), 31);
    }

    // ---- 14, 15

    private static void keepRefused() {
        for (int k : new int[] {-1, -2, 2, 3, 32, MIN, MAX}) {
            Twins.still("14 UNKNOWN keep(" + k + ")", Twins::busy, x -> x.keep(k), UNKNOWN);
            Twins.still("14 UNKNOWN keep(" + k + ")", Twins::late, x -> x.keep(k), UNKNOWN);
        }
    }

    private static void backRefused() {
        for (int k : new int[] {-1, -2, 2, 3, 32, MIN, MAX}) {
            Twins.still("15 UNKNOWN back(" + k + ")", Twins::busy, x -> x.back(k), UNKNOWN);
            Twins.still("15 UNKNOWN ahead of NOT back(" + k + ")", InnChanged::new, x -> x.back(k), UNKNOWN);
        }
        for (int kept = 0; kept < 2; kept++) {
            int k = kept;
            Twins.still("15 NOT: nothing was kept", () -> Due.told("host;night 1"), x -> x.back(k), NOT);
            Twins.still("15 NOT: the other was kept", () -> {
                InnChanged x = Due.told("host;night 1");
                x.keep(1 - k);
                x.pass(NONE, NONE);
                return x;
            }, x -> x.back(k), NOT);
        }
    }

    private static void keptIsAll() {
        InnChanged x = Twins.busyWithoutText();
        Due.due("15 it is as it was at first", x.back(0), 0);
        int[] first = {0, 0, 0, 15};
        for (int what = 3; what < 7; what++) {
            Due.due("15 count(" + what + ")", x.count(what), first[what - 3]);
        }
        Due.due("15 power", x.thing(0, 3), 5);
        Due.due("15 how often it worked", x.thing(0, 5), 0);
        Due.due("15 changes of a place", x.place(0, 2), 0);
        Due.due("15 seen is not of it", x.count(8), 2);
        Due.due("15 it is as it was then", x.back(1), 1);
        int[] then = {1, 1, 2, 12};
        for (int what = 3; what < 7; what++) {
            Due.due("15 count(" + what + ")", x.count(what), then[what - 3]);
        }
        Due.due("15 power", x.thing(0, 3), 4);
        Due.due("15 how often it worked", x.thing(0, 5), 1);
        Due.due("15 changes of a place", x.place(0, 2), 1);
        Due.write(x, "host");
        Due.due("15 back", x.back(0), 0);
        Due.due("15 the text is not of it", x.count(9), 4);
    }

    private static void keptAtBothEnds() {
        InnChanged x = Due.told("host;dull 0 0;dull 0 0;" + Due.lines("night 0", 6));
        Due.due("14 ahead of night 0", x.keep(0), 0);
        for (int n = 0; n < 6; n++) {
            x.pass(0, 1);
        }
        Due.due("14 behind the last night", x.keep(1), 6);
        Due.due("15 ahead of night 0", x.back(0), 0);
        Due.due("12 nights are to come again", x.pass(0, 1), 1);
        Due.due("15 behind the last night", x.back(1), 6);
        Due.due("12 there is no further one", x.pass(NONE, NONE), NOT);
        Due.due("15 what is kept stays", x.back(0), 0);
        Due.due("15 what is kept stays", x.back(0), 0);
        Due.due("12 a night", x.pass(NONE, NONE), 1);
        Due.due("14 kept over another", x.keep(1), 1);
        Due.due("15 the later one", x.back(1), 1);
        Due.due("15 the other one is as it was", x.back(0), 0);
    }

    private static void keptSinceTheLastText() {
        InnChanged x = Twins.busyWithoutText();
        Due.write(x, "host;");
        Due.due("5 a text with a fault", x.inn(), NOT);
        Due.due("15 it is still kept", x.back(1), 1);
        Due.due("3 erase", x.erase(), 5);
        Due.due("15 it is still kept", x.back(0), 0);
        Due.tell(x, "guest");
        Due.due("15 NOT 'since the last text'", x.back(0), NOT);
        Due.due("15 NOT 'since the last text'", x.back(1), NOT);
        Due.due("14 kept anew", x.keep(1), 0);
        Due.due("15 NOT: the other one is not", x.back(0), NOT);
        Due.due("15 back", x.back(1), 0);
        Due.tell(x, "inn");
        Due.due("15 NOT 'since the last text'", x.back(1), NOT);
    }
}
