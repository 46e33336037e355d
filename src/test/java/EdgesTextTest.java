import java.util.function.ToIntFunction;

/** Boundary cases of promises 1 to 5: an object with nothing in it, and the text, sentence by sentence. */
public final class EdgesTextTest {
    private static final int NONE = InnChanged.NONE, UNKNOWN = InnChanged.UNKNOWN,
            OUTSIDE = InnChanged.OUTSIDE, NOT = InnChanged.NOT, FULL = InnChanged.FULL;
    private static final int MIN = Integer.MIN_VALUE, MAX = Integer.MAX_VALUE;

    private static final String[] PEOPLE = {"guest", "watcher", "lender", "host"};
    private static final String[] THINGS = {"dull 0 0", "true 0 0 0", "fading 0 0 0 0", "moody 0 0 0"};
    /** Each line that there is, with the least numbers: it stands behind one host and one thing. */
    private static final String[] LINES = {
        "inn", "guest", "watcher", "lender", "host", "dull 0 0", "true 0 0 0", "fading 0 0 0 0", "moody 0 0 0",
        "night 0", "power 0 0",
    };
    private static final String ONE_OF_EACH = "host;dull 0 0";

    public static void main(String[] args) {
        nobodyNothing();
        objectsAreApart();
        theLastCall();
        aByte();
        fullText();
        erased();
        emptyText();
        endsOfTheText();
        tokensByTheirBytes();
        wordsByTheirLetters();
        theEndTooSoon();
        moreThanALine();
        looks();
        keepers();
        words();
        powers();
        sets();
        items();
        digits();
        fivePeople();
        sixThings();
        sixNights();
        fourteenLines();
        linesAhead();
        linesInTheirOrder();
        notToldIsNought();
        innRefused();
        behindTheLines();
        Due.end();
    }

    // ---- helpers

    /** The fault of a text behind another one; with a fault its lines are not done either. */
    private static void fault(String name, String ahead, String text, int want) {
        String says = name + ": fault of '" + text + "' behind '" + ahead + "'";
        Twins.still(says, () -> written(ahead, text), InnChanged::fault, want);
        if (want != NONE) {
            Twins.still(says + ", inn()", () -> written(ahead, text), InnChanged::inn, NOT);
        } else {
            InnChanged x = written(ahead, text);
            Due.due(says + ", inn()", x.inn(), text.split(";", -1).length);
            Due.due(says + ", the text is empty then", x.count(9), 0);
        }
    }

    private static InnChanged written(String ahead, String text) {
        InnChanged x = ahead.isEmpty() ? new InnChanged() : Due.told(ahead);
        Due.write(x, text);
        Due.due("all bytes of '" + text + "' were taken", x.count(9), text.length());
        return x;
    }

    /** A number of a line, put for #: those inside stand there, at those outside is the fault. */
    private static void bounds(String name, String ahead, String line, int[] inside, int[] outside) {
        for (int n : inside) {
            fault(name, ahead, line.replace("#", "" + n), NONE);
        }
        for (int n : outside) {
            fault(name, ahead, line.replace("#", "" + n), line.indexOf('#'));
        }
    }

    // ---- 1

    private static void nobodyNothing() {
        nothing("erase()", InnChanged::erase, 0);
        nothing("fault()", InnChanged::fault, 0);
        nothing("inn()", InnChanged::inn, NOT);
        nothing("one(0, 0)", x -> x.one(0, 0), UNKNOWN);
        nothing("as(0, 0)", x -> x.as(0, 0), UNKNOWN);
        nothing("thing(0, 0)", x -> x.thing(0, 0), UNKNOWN);
        nothing("thingAs(0, 0)", x -> x.thingAs(0, 0), UNKNOWN);
        nothing("place(0, 0)", x -> x.place(0, 0), UNKNOWN);
        nothing("may(0, 0, 1)", x -> x.may(0, 0, 1), UNKNOWN);
        nothing("pass(0, 1)", x -> x.pass(0, 1), UNKNOWN);
        nothing("pass(0, 0)", x -> x.pass(0, 0), UNKNOWN);
        nothing("pass(0, NONE)", x -> x.pass(0, NONE), UNKNOWN);
        nothing("pass(NONE, NONE)", x -> x.pass(NONE, NONE), NOT);
        nothing("say(0, 0)", x -> x.say(0, 0), UNKNOWN);
        nothing("back(0)", x -> x.back(0), NOT);
        nothing("back(1)", x -> x.back(1), NOT);
        nothing("rings()", InnChanged::rings, 0);
        nothing("mend(NONE, 0)", x -> x.mend(NONE, 0), 0);
        nothing("mend(0, 0)", x -> x.mend(0, 0), NONE);
        nothing("show(0)", x -> x.show(0), UNKNOWN);
        nothing("plan(0)", x -> x.plan(0), 0);
        nothing("plan(1)", x -> x.plan(1), 0);
        nothing("planned(0, 0)", x -> x.planned(0, 0), UNKNOWN);
        nothing("seen(0, 0, 0)", x -> x.seen(0, 0, 0), UNKNOWN);
        nothing("forget()", InnChanged::forget, 0);
        nothing("fit()", InnChanged::fit, 1);
        nothing("lies(0)", x -> x.lies(0), UNKNOWN);
        nothing("sure()", InnChanged::sure, 0);
        nothing("odds(0, 0)", x -> x.odds(0, 0), UNKNOWN);
        nothing("next(0)", x -> x.next(0), NONE);
        nothing("apart(NONE)", x -> x.apart(NONE), 0);
        nothing("apart(0)", x -> x.apart(0), NONE);
        nothing("came(0)", x -> x.came(0), 0);
        nothing("came(1)", x -> x.came(1), 1);
        for (int what = 0; what < 10; what++) {
            int asked = what;
            nothing("count(" + what + ")", x -> x.count(asked), what == 7 ? 1 : 0);
        }
        InnChanged x = new InnChanged();
        Due.due("1 nothing can be kept, too", x.keep(1), 0);
        Due.due("1 and is as it was", x.back(1), 0);
    }

    private static void nothing(String call, ToIntFunction<InnChanged> asked, int want) {
        Twins.still("1 'Nobody, nothing' " + call, InnChanged::new, asked, want);
    }

    private static void objectsAreApart() {
        InnChanged before = new InnChanged();
        InnChanged busy = Twins.busy();
        Due.due("1 the busy one has people", busy.count(0), 4);
        Twins.same("1 one that was made before", before, new InnChanged());
        Twins.same("1 two busy ones", busy, Twins.busy());
    }

    /** "An object is used for at most 512 calls": the last of them is promised like the first. */
    private static void theLastCall() {
        InnChanged x = new InnChanged();
        String text = "guest;true 0 0 0";
        Due.write(x, text);
        Due.due("inn()", x.inn(), 2);
        int said = 0;
        for (int calls = text.length() + 1; calls < 511; calls++) {
            Due.due("13 say", x.say(0, 0), 1);
            said++;
        }
        Due.due("the 512th call", x.thing(0, 5), said);
    }

    // ---- 2, 3

    private static void aByte() {
        for (int c : new int[] {-1, 256, -256, 1 << 8 | 104, MIN, MAX}) {
            Twins.still("2 'a byte (0 .. 255)' " + c, Twins::busy, x -> x.write(c), OUTSIDE);
            Twins.still("2 'a byte (0 .. 255)' first of all " + c, InnChanged::new, x -> x.write(c), OUTSIDE);
        }
        for (int from : new int[] {0, 96}) {
            InnChanged x = new InnChanged();
            for (int i = 0; i < 160; i++) {
                Due.due("2 write(" + (from + i) + "): how many it has", x.write(from + i), i + 1);
                Due.due("30 bytes of the text", x.count(9), i + 1);
            }
        }
    }

    private static void fullText() {
        String text = "guest" + " ".repeat(154);
        InnChanged x = written(ONE_OF_EACH, text);
        Due.due("2 '160 at most': the last", x.write(32), 160);
        Due.due("2 '160 at most': one more", x.write(32), FULL);
        for (int c : new int[] {0, 32, 115, 255}) {
            Twins.still("2 FULL " + c, () -> written(ONE_OF_EACH, text + " "), y -> y.write(c), FULL);
        }
        for (int c : new int[] {-1, 256, MIN, MAX}) {
            Twins.still("2 OUTSIDE ahead of FULL " + c, () -> written("", text + " "), y -> y.write(c), OUTSIDE);
        }
        Due.due("3 the full text", x.erase(), 160);
        Due.due("2 there is room again", x.write('h'), 1);
        InnChanged done = written("", " ".repeat(156) + "host");
        Due.due("5 the full text is done", done.inn(), 1);
        Due.due("2 there is room again", done.write('h'), 1);
    }

    private static void erased() {
        Twins.still("3 an empty one: 0", Twins::busyWithoutText, InnChanged::erase, 0);
        InnChanged x = Twins.busy();
        Due.due("3 how many bytes it had", x.erase(), 3);
        Twins.same("3 nothing else changes", x, Twins.busyWithoutText());
        InnChanged y = new InnChanged();
        y.write(0);
        Due.due("3 one byte", y.erase(), 1);
        Due.due("3 none", y.erase(), 0);
        Due.write(y, "host");
        Due.due("3 what was erased is not read", y.inn(), 1);
    }

    // ---- 4: bytes, tokens, words

    private static void emptyText() {
        fault("4 empty", "", "", 0);
        fault("4 empty", ONE_OF_EACH, "", 0);
        fault("4 a blank", "", " ", 1);
        fault("4 blanks alone, full", "", " ".repeat(160), 160);
    }

    private static void endsOfTheText() {
        fault("4 at the first byte", "", "x" + " ".repeat(155) + "host", 0);
        fault("4 at the last byte", "", "host" + " ".repeat(155) + "x", 159);
        fault("4 at the end of a full one", "", " ".repeat(155) + "night", 160);
        fault("4 at the end of a full one", "", " ".repeat(155) + "host;", 160);
        fault("4 a row to the last byte", "", "host" + " ".repeat(146) + "abcdefghij", 150);
        fault("4 a number to the last byte", "", "night" + " ".repeat(153) + "00", NONE);
        fault("4 a number to the last byte", "", "night" + " ".repeat(152) + "000", 157);
        fault("4 a word to the last byte", "", "host" + " ".repeat(150) + ";guest", NONE);
    }

    /** Each byte that there is, behind a word, behind a number, ahead of a word, alone. */
    private static void tokensByTheirBytes() {
        for (int c = 0; c < 256; c++) {
            boolean letter = c >= 'a' && c <= 'z';
            boolean digit = c >= '0' && c <= '9';
            char sign = (char) c;
            int behindWord = c == ' ' ? NONE : c == ';' ? 5 : letter ? 0 : 4;
            byteFault(c, "host" + sign, behindWord);
            int behindNumber = c == ' ' || c == '0' ? NONE : c == ';' ? 8 : digit ? 6 : 7;
            byteFault(c, "night 0" + sign, behindNumber);
            byteFault(c, sign + "host", c == ' ' ? NONE : 0);
            byteFault(c, "" + sign, c == ' ' ? 1 : 0);
            byteFault(c, "host;" + sign, c == ' ' ? 6 : 5);
            byteFault(c, "night " + sign, c == '0' ? NONE : c == ' ' ? 7 : 6);
        }
    }

    private static void byteFault(int c, String text, int want) {
        InnChanged x = written("", text);
        Due.due("4 tokens: byte " + c + " in '" + text + "'", x.fault(), want);
    }

    private static void wordsByTheirLetters() {
        for (String line : LINES) {
            String word = line.split(" ")[0];
            String rest = line.substring(word.length());
            fault("4 the word", ONE_OF_EACH, line, NONE);
            for (int cut = 1; cut < word.length(); cut++) {
                fault("4 a word cut short", ONE_OF_EACH, word.substring(0, cut) + rest, 0);
                fault("4 a word's end alone", ONE_OF_EACH, word.substring(cut) + rest, 0);
                fault("4 a word in two", ONE_OF_EACH, word.substring(0, cut) + " " + word.substring(cut) + rest, 0);
            }
            for (int i = 0; i < word.length(); i++) {
                String other = word.substring(0, i) + (word.charAt(i) == 'z' ? 'y' : 'z') + word.substring(i + 1);
                fault("4 another letter", ONE_OF_EACH, other + rest, 0);
            }
            fault("4 a letter more", ONE_OF_EACH, word + "s" + rest, 0);
            fault("4 a letter ahead", ONE_OF_EACH, "a" + word + rest, 0);
            fault("4 small letters", ONE_OF_EACH, Character.toUpperCase(word.charAt(0)) + word.substring(1) + rest, 0);
        }
    }

    private static void theEndTooSoon() {
        for (String line : LINES) {
            for (int at = line.indexOf(' '); at >= 0; at = line.indexOf(' ', at + 1)) {
                String cut = line.substring(0, at);
                fault("4 'the end, if it comes too soon'", ONE_OF_EACH, cut, at);
                fault("4 'the end, if it comes too soon'", ONE_OF_EACH, cut + "  ", at + 2);
                fault("4 ; too soon", ONE_OF_EACH, cut + ";inn", at);
                fault("4 a word for a number", ONE_OF_EACH, cut + " host", at + 1);
            }
            fault("4 no line behind ;", ONE_OF_EACH, line + ";", line.length() + 1);
            fault("4 no line behind ;", ONE_OF_EACH, line + " ; ", line.length() + 3);
            fault("4 no line ahead of ;", ONE_OF_EACH, ";" + line, 0);
            fault("4 no line between", ONE_OF_EACH, line + ";;" + line, line.length() + 1);
        }
    }

    private static void moreThanALine() {
        for (String line : LINES) {
            fault("4 a number too many", ONE_OF_EACH, line + " 0", line.length() + 1);
            fault("4 a word too many", ONE_OF_EACH, line + " inn", line.length() + 1);
            fault("4 a point", ONE_OF_EACH, line + ".", line.length());
            fault("4 blanks around it", ONE_OF_EACH, "  " + line + "  ", NONE);
        }
    }

    // ---- 4: numbers

    private static void looks() {
        for (String line : new String[] {"dull # 0", "true # 0 0", "fading # 0 0 0", "moody # 0 0"}) {
            bounds("4 'LOOK (0 .. 2)'", "host", line, new int[] {0, 2}, new int[] {3, 9, 10, 99});
        }
    }

    private static void keepers() {
        for (String line : new String[] {"dull 0 #", "true 0 # 0", "fading 0 # 0 0", "moody 0 # 0"}) {
            bounds("4 kept by K: nobody is there", "", line, new int[] {}, new int[] {0, 1, 99});
            for (int people = 1; people <= 5; people++) {
                bounds("4 kept by K of " + people, Due.lines("guest", people), line, new int[] {0, people - 1},
                        new int[] {people, 10, 99});
            }
        }
    }

    private static void words() {
        for (String line : new String[] {"true 0 0 #", "fading 0 0 # 0", "moody 0 0 #"}) {
            bounds("4 'WORD (0 .. 3)'", "host", line, new int[] {0, 3}, new int[] {4, 9, 10, 99});
        }
    }

    private static void powers() {
        for (String line : new String[] {"fading 0 0 0 #", "power 0 #"}) {
            bounds("4 'POWER (0 .. 9)'", ONE_OF_EACH, line, new int[] {0, 9}, new int[] {10, 11, 99});
        }
    }

    private static void sets() {
        bounds("4 'of PEOPLE that there are': none", "", "night #", new int[] {0}, new int[] {1, 31, 99});
        for (int people = 1; people <= 5; people++) {
            int all = (1 << people) - 1;
            bounds("4 'of PEOPLE that there are': " + people, Due.lines("guest", people), "night #",
                    new int[] {0, 1, all}, new int[] {all + 1, all + 2, 99});
        }
    }

    private static void items() {
        bounds("4 no thing", "host", "power # 0", new int[] {}, new int[] {0, 1, 99});
        for (int things = 1; things <= 6; things++) {
            bounds("4 one of " + things + " things", "host;" + Due.lines("dull 0 0", things), "power # 0",
                    new int[] {0, things - 1}, new int[] {things, 10, 99});
        }
    }

    private static void digits() {
        String five = Due.lines("guest", 5);
        fault("4 one digit", five, "night 9", NONE);
        fault("4 two digits", five, "night 09", NONE);
        fault("4 two digits", five, "night 31", NONE);
        fault("4 three digits", five, "night 009", 6);
        fault("4 three digits", five, "night 031", 6);
        fault("4 three digits", five, "night 100", 6);
        fault("4 three digits behind blanks", five, "night    000", 9);
        // these are 0 or 1, if only the last 32 or 64 bits of them are looked at
        fault("4 a row that wraps around", five, "night 4294967296", 6);
        fault("4 a row that wraps around", five, "night 18446744073709551617", 6);
        fault("4 a row of noughts", five, "night " + "0".repeat(154), 6);
        fault("4 each digit is of the row", five, "night 0123456789", 6);
        fault("4 a sign is none", five, "night -1", 6);
        fault("4 a sign is none", five, "night +1", 6);
        fault("4 a point is none", five, "night 1.0", 7);
        InnChanged x = Due.told("guest;guest;fading 02 01 03 09;night 03;power 00 08");
        int[] want = {2, 2, 3, 8, 0, 0};
        for (int what = 0; what < 6; what++) {
            Due.due("4 a nought ahead counts nothing " + what, x.thing(0, what), want[what]);
        }
        Due.due("4 a nought ahead counts nothing", x.place(0, 0), 1);
        Due.due("4 a nought ahead counts nothing", x.one(1, 3), 1);
    }

    // ---- 4: limits

    private static void fivePeople() {
        for (String word : PEOPLE) {
            String name = "4 'a sixth cannot stand there (at its word)'";
            fault(name, "", Due.lines(word, 5), NONE);
            fault(name, "", Due.lines(word, 6), (word.length() + 1) * 5);
            fault(name, "", Due.lines(word, 5) + ";  " + word, (word.length() + 1) * 5 + 2);
            fault(name, Due.lines("host", 4), word, NONE);
            fault(name, Due.lines("host", 4), word + ";" + word, word.length() + 1);
            fault(name, Due.lines("host", 5), word, 0);
            fault(name, Due.lines("host", 5), word + " 0", 0);
            fault(name, Due.lines("host", 5), "inn;" + word, NONE);
            fault(name, Due.lines("host", 5), "inn;" + Due.lines(word, 6), 4 + (word.length() + 1) * 5);
        }
        InnChanged x = Due.told(Due.lines("lender", 5));
        Due.due("1 'PEOPLE .. 5 at most'", x.count(0), 5);
        Due.due("6 the fifth", x.one(4, 0), 2);
        Due.due("6 no sixth", x.one(5, 0), UNKNOWN);
        fault("4 things still come", Due.lines("host", 5), "dull 0 4;night 31", NONE);
    }

    private static void sixThings() {
        String six = "host;" + Due.lines("dull 0 0", 6);
        for (String line : THINGS) {
            String name = "4 'a seventh cannot stand there (at its word)'";
            fault(name, "host", Due.lines(line, 6), NONE);
            fault(name, "host", Due.lines(line, 7), (line.length() + 1) * 6);
            fault(name, "host;" + Due.lines("dull 0 0", 5), line, NONE);
            fault(name, "host;" + Due.lines("dull 0 0", 5), line + ";" + line, line.length() + 1);
            fault(name, six, line, 0);
            fault(name, six, line.split(" ")[0] + " 9 9", 0);
            fault(name, six, line.split(" ")[0], 0);
            fault(name, six, "inn;host;" + line, NONE);
        }
        InnChanged x = Due.told(six);
        Due.due("'THINGS .. 6 at most'", x.count(1), 6);
        Due.due("8 the sixth", x.thing(5, 4), 5);
        Due.due("10 its place", x.place(5, 0), 0);
        Due.due("8 no seventh", x.thing(6, 0), UNKNOWN);
        fault("4 others still come", six, "host;night 3;power 5 9", NONE);
    }

    private static void sixNights() {
        String name = "4 'a seventh cannot stand there (at its word)'";
        String six = Due.lines("night 0", 6);
        fault(name, "", six, NONE);
        fault(name, "", Due.lines("night 0", 7), 48);
        fault(name, Due.lines("night 0", 5), "night 0", NONE);
        fault(name, Due.lines("night 0", 5), "night 0;night 0", 8);
        fault(name, six, "night 0", 0);
        fault(name, six, "night", 0);
        fault(name, six, "night 99", 0);
        fault(name, six, "inn;" + six, NONE);
        fault(name, six, "inn;" + six + ";night 0", 52);
        InnChanged x = Due.told(six);
        Due.due("'NIGHTS .. 6 at most'", x.count(2), 6);
        fault("4 others still come", six, "host;dull 0 0;power 0 9", NONE);
    }

    private static void fourteenLines() {
        for (int lines = 1; lines <= 14; lines++) {
            InnChanged x = written("", Due.lines("inn", lines));
            Due.due("4 'LINES .. 14 at most'", x.fault(), NONE);
            Due.due("5 how many there were", x.inn(), lines);
        }
        String most = Due.lines("inn", 14);
        fault("4 'LINES .. 14 at most'", "", most + "  ", NONE);
        fault("4 'LINES .. 14 at most'", "", most + ";inn", 55);
        fault("4 'LINES .. 14 at most'", "", most + ";", 55);
        fault("4 'LINES .. 14 at most'", "", most + "  ;", 57);
        fault("4 'LINES .. 14 at most'", "", most + " inn", 56);
        fault("4 'LINES .. 14 at most'", "", Due.lines("inn", 40), 55);
        fault("4 a fault ahead of the fifteenth", "", Due.lines("inn", 13) + ";in;inn", 52);
        InnChanged x = written("", most);
        x.inn();
        Due.due("5 fourteen lines may follow others", written("inn", most).inn(), 14);
        Due.write(x, "host;guest;dull 0 0;" + Due.lines("power 0 1", 10) + ";power 0 7");
        Due.due("5 fourteen lines", x.inn(), 14);
        Due.due("5 the fourteenth is done", x.thing(0, 3), 7);
    }

    // ---- 4, 5: lines

    private static void linesAhead() {
        String name = "4 'such as there are behind the LINES ahead'";
        fault(name, "", "dull 0 0;host", 7);
        fault(name, "", "host;dull 0 0", NONE);
        fault(name, "", "host;dull 0 1;guest", 12);
        fault(name, "", "night 1;host", 6);
        fault(name, "", "host;night 1", NONE);
        fault(name, "", "host;night 2;guest", 11);
        fault(name, "", "host;power 0 0;dull 0 0", 11);
        fault(name, "", "host;dull 0 0;power 1 0;dull 0 0", 20);
        fault(name, "host;dull 0 0", "power 0 0;dull 0 0;guest;night 3", NONE);
        fault(name, "host;dull 0 0", "inn;power 0 0", 10);
        fault(name, "host;dull 0 0", "inn;dull 0 0", 11);
        fault(name, "host;dull 0 0", "inn;night 1", 10);
        fault(name, "host;dull 0 0", "power 0 0;inn;host;dull 0 0;night 1", NONE);
    }

    private static void linesInTheirOrder() {
        InnChanged x = Due.told("host;dull 0 0;power 0 3;power 0 5;true 0 0 1;power 1 4;power 0 2");
        Due.due("5 'LINES are done in their order'", x.thing(0, 3), 2);
        Due.due("5 'LINES are done in their order'", x.thing(1, 3), 4);
        Due.tell(x, "guest;night 2;inn;lender;moody 2 0 3");
        int[] counts = {1, 1, 0};
        for (int what = 0; what < 3; what++) {
            Due.due("5 'inn: no PEOPLE, THINGS, NIGHTS'", x.count(what), counts[what]);
        }
        Due.due("5 those behind it are the first", x.one(0, 0), 2);
        Due.due("5 those behind it are the first", x.thing(0, 0), 3);
        Due.tell(x, "guest;night 2;inn");
        for (int what = 0; what < 10; what++) {
            Due.due("5 inn last", x.count(what), what == 7 ? 1 : 0);
        }
    }

    private static void notToldIsNought() {
        // things of other words and powers were there before, of the same numbers
        InnChanged x = Due.told("host;guest;fading 2 1 3 9;fading 2 1 3 9;fading 2 1 3 9;power 0 8");
        Due.tell(x, "inn;host;dull 1 0;true 1 0 2;moody 1 0 3");
        int[] words = {0, 2, 3};
        for (int t = 0; t < 3; t++) {
            Due.due("5 '(WORD 0 .. where they are not told)'", x.thing(t, 2), words[t]);
            Due.due("5 '(.. POWER 0, where they are not told)'", x.thing(t, 3), 0);
        }
    }

    private static void innRefused() {
        Twins.still("5 NOT: it is empty", Twins::busyWithoutText, InnChanged::inn, NOT);
        Twins.still("5 NOT: it has a fault", Twins::busy, InnChanged::inn, NOT);
        String[] ends = {";", "x", ";dull 3", ";night 99", ";guest;guest", ";inn;power 0"};
        for (String end : ends) {
            Twins.still("5 NOT: none of the lines ahead of a fault is done '" + end + "'", () -> {
                InnChanged x = Twins.busyWithoutText();
                Due.write(x, "inn;guest;watcher;dull 0 0;night 1;guest;guest;guest" + end);
                return x;
            }, InnChanged::inn, NOT);
        }
    }

    /** "Behind them it is ahead of NIGHT 0 ..": by a line that changes next to nothing, too. */
    private static void behindTheLines() {
        InnChanged x = Twins.busyWithoutText();
        Due.due("keep", x.keep(0), 1);
        Due.tell(x, "power 1 0");
        InnChanged fresh = Due.told("host;guest;watcher;lender;fading 0 1 0 5;dull 0 0;moody 1 3 2;true 1 0 3;"
                + "night 10;night 2;night 8");
        Twins.same("5 behind the lines all is as at first", x, fresh);
        InnChanged y = Twins.busyWithoutText();
        Due.tell(y, "power 1 0");
        Due.due("5 it is ahead of night 0", y.count(3), 0);
        Due.due("5 things lie in their own places", y.count(6), 15);
        Due.due("5 powers are as told", y.thing(0, 3), 5);
        Due.due("5 nobody knows", y.count(5), 0);
        Due.due("5 no changes were", y.count(4), 0);
        Due.due("5 no changes were", y.place(0, 2), 0);
        Due.due("5 nothing is seen", y.count(8), 0);
        Due.due("5 nothing is seen", y.fit(), 4);
        Due.due("15 nothing is kept", y.back(0), NOT);
        Due.due("15 nothing is kept", y.back(1), NOT);
        Due.due("29 nothing could have come", y.came(1), 1);
    }
}
