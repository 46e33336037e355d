/** Promises 1 to 10: what is told. */
public final class ToldTest {
    private static final int NONE = InnChanged.NONE, UNKNOWN = InnChanged.UNKNOWN,
            OUTSIDE = InnChanged.OUTSIDE, NOT = InnChanged.NOT, FULL = InnChanged.FULL;

    public static void main(String[] args) {
        newObject();
        writeAndErase();
        fullTexts();
        faultsOfWords();
        faultsOfNumbers();
        faultsOfLimits();
        noFault();
        inn();
        textsGoOn();
        textBeginsAnew();
        one();
        as();
        thing();
        thingAs();
        place();
        Due.end();
    }

    private static void newObject() {
        InnChanged x = new InnChanged();
        for (int what = 0; what < 10; what++) {
            Due.due("1 count(" + what + ")", x.count(what), what == 7 ? 1 : 0);
        }
        Due.due("1 one", x.one(0, 0), UNKNOWN);
        Due.due("1 thing", x.thing(0, 0), UNKNOWN);
        Due.due("1 place", x.place(0, 0), UNKNOWN);
        Due.due("1 pass", x.pass(NONE, NONE), NOT);
        Due.due("1 fault", x.fault(), 0);
        Due.due("1 inn", x.inn(), NOT);
        Due.due("1 erase", x.erase(), 0);
        Due.due("1 back", x.back(0), NOT);
        Due.due("1 forget", x.forget(), 0);
    }

    private static void writeAndErase() {
        InnChanged x = new InnChanged();
        Due.due("2 write(-1)", x.write(-1), OUTSIDE);
        Due.due("2 write(256)", x.write(256), OUTSIDE);
        Due.due("2 write(min)", x.write(Integer.MIN_VALUE), OUTSIDE);
        Due.due("2 write(max)", x.write(Integer.MAX_VALUE), OUTSIDE);
        Due.due("2 write(0)", x.write(0), 1);
        Due.due("2 write(255)", x.write(255), 2);
        for (int i = 3; i <= 160; i++) {
            Due.due("2 write", x.write(32), i);
        }
        Due.due("2 write full", x.write(32), FULL);
        Due.due("2 write full, outside", x.write(256), OUTSIDE);
        Due.due("2 count(9)", x.count(9), 160);
        Due.due("3 erase", x.erase(), 160);
        Due.due("3 count(9)", x.count(9), 0);
        Due.due("3 erase again", x.erase(), 0);
        Due.due("3 write", x.write('x'), 1);
    }

    private static void fullTexts() {
        // a text of blanks alone ends too soon; a full one is read to its end
        fault(" ".repeat(160), 160);
        fault("host" + " ".repeat(151) + "host1", 155);
        fault("night" + " ".repeat(153) + "00", NONE);
        fault(" ".repeat(156) + "host", NONE);
    }

    private static void fault(String text, int want) {
        faultBehind("", text, want);
    }

    private static void faultBehind(String ahead, String text, int want) {
        InnChanged x = ahead.isEmpty() ? new InnChanged() : Due.told(ahead);
        int people = x.count(0);
        Due.write(x, text);
        Due.due("4 fault of '" + text + "'", x.fault(), want);
        Due.due("4 fault of '" + text + "' again", x.fault(), want);
        Due.due("4 bytes stay", x.count(9), text.length());
        if (want != NONE) {
            Due.due("5 inn of '" + text + "'", x.inn(), NOT);
            Due.due("5 bytes stay", x.count(9), text.length());
            Due.due("5 people stay", x.count(0), people);
        }
    }

    private static void faultsOfWords() {
        fault("", 0);
        fault("   ", 3);
        fault(";", 0);
        fault(";host", 0);
        fault("host;", 5);
        fault("host; ", 6);
        fault("host;;host", 5);
        fault("host ;; host", 6);
        fault("inns", 0);
        fault("in n", 0);
        fault("Host", 0);
        fault("hostA", 4);
        fault("host,guest", 4);
        fault("host guest", 5);
        fault("host 1", 5);
        fault("host1", 4);
        fault("hos", 0);
        fault("hosthost", 0);
        fault("host;gue", 5);
        fault("  gest", 2);
        fault("gost", 0);
        fault("hostz", 0);
        fault("hosta", 0);
        fault("7", 0);
        fault("\t", 0);
        fault("host\n", 4);
        fault("host" + (char) 255, 4);
        fault("host" + (char) 0, 4);
        fault("inn 0", 4);
        fault("guest.", 5);
    }

    private static void faultsOfNumbers() {
        fault("dull 0 0", 7);
        fault("host;dull 3 0", 10);
        fault("host;dull 2 1", 12);
        fault("host;dull 2", 11);
        fault("host;dull", 9);
        fault("host;dull ", 10);
        fault("host;dull;host", 9);
        fault("host;dull 0;host", 11);
        fault("host;dull 0 0 0", 14);
        fault("host;dull x 0", 10);
        fault("host;dull -1 0", 10);
        fault("host;dull 000 0", 10);
        fault("host;dull 0 000", 12);
        fault("host;true 0 0", 13);
        fault("host;true 0 0 4", 14);
        fault("host;true 0 0 0 0", 16);
        fault("host;moody 0 0 4", 15);
        fault("host;moody 0 0 3 1", 17);
        fault("host;fading 0 0 0", 17);
        fault("host;fading 0 0 4 1", 16);
        fault("host;fading 0 0 3 10", 18);
        fault("host;fading 0 0 3 99999999999", 18);
        fault("host;night 2", 11);
        fault("host;guest;night 4", 17);
        fault("host;night", 10);
        fault("night 1", 6);
        fault("night 00 0", 9);
        fault("host;night 1 ; guest 1", 21);
        fault("power 0", 6);
        fault("host;dull 0 0;power 1 0", 20);
        fault("host;dull 0 0;power 0 10", 22);
        fault("host;dull 0 0;power 0", 21);
        fault("host;dull 0 0;power 0 0 0", 24);
        fault("host;dull 0 0;inn;power 0 0", 24);
        fault("host;inn;dull 0 0", 16);
        fault("guest;inn;night 1", 16);
        faultBehind("guest;guest", "dull 0 2", 7);
        faultBehind("guest;guest", "night 4", 6);
        faultBehind("guest;dull 0 0", "power 1 1", 6);
    }

    private static void faultsOfLimits() {
        fault("guest;guest;guest;guest;host;host", 29);
        fault("guest;guest;guest;guest;host; watcher", 30);
        fault("guest;guest;guest;guest;host;lender 1", 29);
        fault("guest;guest;guest;guest;host;inn;host", NONE);
        faultBehind("guest;guest;guest;guest;host", "guest", 0);
        fault("host;dull 0 0;dull 0 0;dull 0 0;dull 0 0;dull 0 0;dull 0 0;true", 59);
        faultBehind("host;dull 0 0;dull 0 0;dull 0 0;dull 0 0;dull 0 0;dull 0 0", "dull 0 0", 0);
        faultBehind("host;dull 0 0;dull 0 0;dull 0 0;dull 0 0;dull 0 0;dull 0 0", "fading 9", 0);
        faultBehind("host;dull 0 0;dull 0 0;dull 0 0;dull 0 0;dull 0 0;dull 0 0", "moody", 0);
        fault("night 0;night 0;night 0;night 0;night 0;night 0;night 0", 48);
        faultBehind("night 0;night 0;night 0;night 0;night 0;night 0", "night", 0);
        fault("guest;guest;guest;guest;guest;night 31", NONE);
        fault("guest;guest;guest;guest;guest;night 32", 36);
        fault("night 0;night 0;night 0;night 0;night 0;night 0;inn;night 0;night 0", NONE);
        fault("inn;night 0;night 0;night 0;night 0;night 0;night 0", NONE);
        // the fifteenth line: the sign ahead of it cannot stand there
        String lines = "inn;inn;inn;inn;inn;inn;inn;inn;inn;inn;inn;inn;inn;inn";
        fault(lines, NONE);
        fault(lines + " ", NONE);
        fault(lines + ";inn", lines.length());
        fault(lines + ";", lines.length());
    }

    private static void noFault() {
        fault("inn", NONE);
        fault(" host ; guest ", NONE);
        fault("host;dull 02 00", NONE);
        fault("host;  dull   0   0  ;  night  01", NONE);
        fault("host;dull0 0", NONE);
        fault("host;fading 2 0 3 9;moody 1 0 3;true 0 0 3;power 2 9", NONE);
        fault("night 0", NONE);
        fault("watcher;lender", NONE);
    }

    private static void inn() {
        InnChanged x = new InnChanged();
        Due.write(x, "host;guest;true 2 1 3;night 3");
        Due.due("5 inn", x.inn(), 4);
        Due.due("5 the text is empty", x.count(9), 0);
        Due.due("5 inn of nothing", x.inn(), NOT);
        Due.due("5 people", x.count(0), 2);
        Due.due("5 things", x.count(1), 1);
        Due.due("5 nights", x.count(2), 1);
        Due.write(x, "inn");
        Due.due("5 inn", x.inn(), 1);
        for (int what = 0; what < 10; what++) {
            Due.due("5 nobody, nothing " + what, x.count(what), what == 7 ? 1 : 0);
        }
        // a fault behind good lines: none of them is done
        Due.write(x, "host;guest;gues");
        Due.due("5 inn with a fault", x.inn(), NOT);
        Due.due("5 nothing is done", x.count(0), 0);
        Due.due("5 the text stays", x.erase(), 15);
        Due.tell(x, "host;inn;guest;inn;watcher;lender");
        Due.due("5 lines in their order", x.count(0), 2);
        Due.due("5 the first behind inn", x.one(0, 0), 1);
    }

    private static void textsGoOn() {
        InnChanged x = Due.told("guest;true 0 0 1;night 1");
        Due.tell(x, "host;dull 0 1;night 2");
        Due.due("5 people", x.count(0), 2);
        Due.due("5 kind", x.one(1, 0), 3);
        Due.due("5 things", x.count(1), 2);
        Due.due("5 keeper", x.place(1, 0), 1);
        Due.due("5 nights", x.count(2), 2);
        Due.due("5 nights of the guest", x.one(0, 3), 1);
        Due.due("5 nights of the host", x.one(1, 3), 3);
    }

    private static void textBeginsAnew() {
        InnChanged x = Due.told("host;guest;fading 0 1 2 3;dull 0 0;night 2;night 2");
        x.say(0, 2);
        x.pass(0, 1);
        x.say(0, 2);
        x.seen(0, 2, 0);
        x.keep(1);
        Due.due("5 power", x.thing(0, 3), 2);
        Due.due("5 knows", x.count(5), 2);
        Due.tell(x, "power 1 7");
        Due.due("5 passed", x.count(3), 0);
        Due.due("5 changes", x.count(4), 0);
        Due.due("5 knows", x.count(5), 0);
        Due.due("5 own places", x.count(6), 3);
        Due.due("5 seen", x.count(8), 0);
        Due.due("5 power as told", x.thing(0, 3), 3);
        Due.due("5 power of a dull one", x.thing(1, 3), 7);
        Due.due("5 worked", x.thing(0, 5), 0);
        Due.due("5 changes of a place", x.place(0, 2), 0);
        Due.due("5 nothing is kept", x.back(1), NOT);
        Due.tell(x, "power 0 0");
        Due.tell(x, "guest");
        Due.due("5 a power that was told stays told", x.thing(0, 3), 0);
        Due.due("5 of the other, too", x.thing(1, 3), 7);
    }

    private static void one() {
        InnChanged x = Due.told("guest;watcher;lender;host;true 0 0 0;dull 1 3;moody 0 0 1;night 5;night 2;night 0");
        for (int i = 0; i < 4; i++) {
            Due.due("6 kind", x.one(i, 0), i);
        }
        Due.due("6 places", x.one(0, 1), 5);
        Due.due("6 places", x.one(1, 1), 0);
        Due.due("6 places", x.one(3, 1), 2);
        Due.due("6 nights", x.one(0, 3), 1);
        Due.due("6 nights", x.one(1, 3), 2);
        Due.due("6 nights", x.one(2, 3), 1);
        Due.due("6 nights of a host", x.one(3, 3), 7);
        Due.due("6 knows", x.one(0, 2), 0);
        x.pass(0, 2);
        x.say(0, 0);
        Due.due("6 knows", x.one(0, 2), 1);
        Due.due("6 others do not", x.one(1, 2), 0);
        Due.due("6 places stay", x.one(0, 1), 5);
        Due.due("6 unknown", x.one(4, 0), UNKNOWN);
        Due.due("6 unknown", x.one(-1, 9), UNKNOWN);
        Due.due("6 outside", x.one(0, 4), OUTSIDE);
        Due.due("6 outside", x.one(0, -1), OUTSIDE);
    }

    private static void as() {
        InnChanged x = Due.told("guest;watcher;lender;host;true 0 0 0;dull 0 0;moody 0 2 1;dull 0 3;night 5;night 5");
        // rows: kind of one; columns: ONE, GUEST, WATCHER, LENDER, HOST
        int[][] is = {{1, 1, 0, 0, 0}, {1, 1, 1, 0, 0}, {1, 1, 0, 1, 0}, {1, 0, 0, 0, 1}};
        int[] own = {2, 0, 1, 1};
        for (int one = 0; one < 4; one++) {
            for (int kind = 0; kind < 5; kind++) {
                Due.due("7 as(" + one + ", " + kind + ")", x.as(one, kind), is[one][kind] == 1 ? own[one] : NOT);
            }
        }
        // his own two lie in one another's places, and still in his
        x.pass(0, 1);
        Due.due("7 his own in his places", x.as(0, 1), 2);
        x.pass(0, 3);
        Due.due("7 one is away", x.as(0, 1), 1);
        Due.due("7 the host has another's", x.as(3, 0), 0);
        Due.due("7 unknown", x.as(4, 9), UNKNOWN);
        Due.due("7 unknown", x.as(-1, 0), UNKNOWN);
        Due.due("7 outside", x.as(0, 5), OUTSIDE);
        Due.due("7 outside", x.as(0, -1), OUTSIDE);
    }

    private static void thing() {
        InnChanged x = Due.told("host;guest;dull 2 0;true 0 1 3;fading 0 1 2 9;moody 1 0 1;power 3 4;night 2");
        int[][] want = {{0, 2, 0, 0, 0, 0}, {1, 0, 3, 0, 1, 0}, {2, 0, 2, 9, 2, 0}, {3, 1, 1, 4, 3, 0}};
        for (int t = 0; t < 4; t++) {
            for (int what = 0; what < 6; what++) {
                Due.due("8 thing(" + t + ", " + what + ")", x.thing(t, what), want[t][what]);
            }
        }
        x.pass(2, 1);
        Due.due("8 lies", x.thing(1, 4), 2);
        Due.due("8 lies", x.thing(2, 4), 1);
        x.say(1, 2);
        x.say(1, 2);
        x.say(1, 3);
        x.say(2, 3);
        Due.due("8 power", x.thing(2, 3), 7);
        Due.due("8 worked", x.thing(2, 5), 2);
        Due.due("8 worked", x.thing(1, 5), 1);
        Due.due("8 a true one does not fade", x.thing(1, 3), 0);
        Due.due("8 unknown", x.thing(4, 0), UNKNOWN);
        Due.due("8 unknown", x.thing(-1, 8), UNKNOWN);
        Due.due("8 outside", x.thing(0, 6), OUTSIDE);
        Due.due("8 outside", x.thing(0, -1), OUTSIDE);
    }

    private static void thingAs() {
        InnChanged x = Due.told("host;guest;lender;dull 0 0;true 0 1 3;fading 0 1 2 1;moody 0 1 1;moody 0 2 0;night 6;night 6");
        // columns: THING, DULL, CHARM, TRUE, FADING, MOODY
        int[][] is = {{1, 1, 0, 0, 0, 0}, {1, 0, 1, 1, 0, 0}, {1, 0, 1, 0, 1, 0}, {1, 0, 1, 1, 0, 1}, {1, 0, 1, 1, 0, 1}};
        for (int t = 0; t < 5; t++) {
            for (int kind = 0; kind < 6; kind++) {
                int works = t == 0 ? 0 : 1;
                Due.due("9 thingAs(" + t + ", " + kind + ")", x.thingAs(t, kind), is[t][kind] == 1 ? works : NOT);
            }
        }
        x.say(2, 2);
        Due.due("9 it has faded", x.thingAs(2, 4), 0);
        x.pass(3, 4);
        Due.due("9 moody with a lender", x.thingAs(3, 5), 1);
        Due.due("9 moody with another", x.thingAs(4, 5), 0);
        x.pass(3, 0);
        Due.due("9 moody with the host", x.thingAs(4, 3), 0);
        Due.due("9 nothing changes", x.thing(1, 5), 0);
        Due.due("9 unknown", x.thingAs(5, 0), UNKNOWN);
        Due.due("9 unknown", x.thingAs(-1, -1), UNKNOWN);
        Due.due("9 outside", x.thingAs(0, 6), OUTSIDE);
        Due.due("9 outside", x.thingAs(0, -1), OUTSIDE);
        // moody works in another place of the same keeper
        InnChanged y = Due.told("guest;moody 0 0 1;dull 0 0;night 1");
        y.pass(0, 1);
        Due.due("9 moody in another place of his", y.thingAs(0, 5), 1);
    }

    private static void place() {
        InnChanged x = Due.told("host;guest;dull 0 0;true 0 1 3;dull 0 0;night 2;night 2;night 2");
        Due.due("10 keeper", x.place(1, 0), 1);
        Due.due("10 thing", x.place(1, 1), 1);
        Due.due("10 changes", x.place(1, 2), 0);
        x.pass(1, 0);
        x.pass(NONE, NONE);
        x.pass(1, 2);
        Due.due("10 keeper stays", x.place(1, 0), 1);
        Due.due("10 thing", x.place(1, 1), 2);
        Due.due("10 thing", x.place(0, 1), 1);
        Due.due("10 thing", x.place(2, 1), 0);
        Due.due("10 changes", x.place(1, 2), 2);
        Due.due("10 changes", x.place(0, 2), 1);
        Due.due("10 changes", x.place(2, 2), 1);
        Due.due("10 unknown", x.place(3, 0), UNKNOWN);
        Due.due("10 unknown", x.place(-1, 3), UNKNOWN);
        Due.due("10 outside", x.place(0, 3), OUTSIDE);
        Due.due("10 outside", x.place(0, -1), OUTSIDE);
    }
}
