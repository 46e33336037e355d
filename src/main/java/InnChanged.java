import java.util.Arrays;

/** Things that look alike, kept by guests and by a host who changes two of them by night. */
public final class InnChanged {
    public static final int NONE = -1, UNKNOWN = -2, OUTSIDE = -3, NOT = -4, FULL = -5;

    private static final int MOST_PEOPLE = 5, MOST_THINGS = 6, MOST_NIGHTS = 6;
    private static final int LOOKS = 3, WORDS = 4, POWERS = 10;
    private static final int MOST_BYTES = 160, MOST_LINES = 14, MOST_NUMBERS = 4;
    private static final int MOST_SEEN = 10, MOST_KEPT = 2;
    private static final int MOST_PAIRS = 4;
    /** All ways in which six things can lie in six places. */
    private static final int MOST_WAYS = 720;

    /** The kinds of people. */
    private static final int GUEST = 0, WATCHER = 1, LENDER = 2, HOST = 3;
    /** The kinds of things. */
    private static final int DULL = 0, TRUE = 1, FADING = 2, MOODY = 3;

    /** The words with which lines begin; those of people and of things stand in the order of their kinds. */
    private static final int SAYS_INN = 0, SAYS_GUEST = 1, SAYS_HOST = 4, SAYS_DULL = 5,
            SAYS_TRUE = 6, SAYS_FADING = 7, SAYS_MOODY = 8, SAYS_NIGHT = 9, SAYS_POWER = 10;
    private static final int LINE_WORDS = 11;

    private static final int BLANK = 32, SEMICOLON = 59;

    /** Of each kind of people as they are over one another, the one above: ONE, GUEST, WATCHER, LENDER, HOST. */
    private static final int[] OVER_ONE = {NONE, 0, 1, 1, 0};
    /** The same of things: THING, DULL, CHARM, TRUE, FADING, MOODY. */
    private static final int[] OVER_THING = {NONE, 0, 0, 2, 2, 3};
    /** Where a kind of things stands among those that are over one another. */
    private static final int[] THING_STANDS = {1, 3, 4, 5};

    private final Text text;
    private final Told told;
    private final Now now;
    private final Now[] kept;
    private int keptBits;
    private final Seen seen;
    private final Mend mend;
    private final Plan plan;
    private final Fits fits;
    private final Apart apart;
    private final Came came;

    public InnChanged() {
        text = new Text();
        told = new Told();
        now = new Now(told);
        kept = new Now[MOST_KEPT];
        for (int k = 0; k < MOST_KEPT; k++) {
            kept[k] = new Now(told);
        }
        keptBits = 0;
        seen = new Seen();
        mend = new Mend(told, now);
        plan = new Plan(told, now);
        fits = new Fits(told, now, seen);
        apart = new Apart(told, now, fits);
        came = new Came(told, now, fits);
    }

    // ---- what is told

    public int write(int c) {
        if (c < 0 || c > 255) {
            return OUTSIDE;
        }
        return text.append(c) ? text.length : FULL;
    }

    public int erase() {
        int had = text.length;
        text.length = 0;
        return had;
    }

    public int fault() {
        return text.read(told.people, told.things, told.nights);
    }

    public int inn() {
        if (text.read(told.people, told.things, told.nights) != NONE) {
            return NOT;
        }
        for (int i = 0; i < text.lines; i++) {
            told.doLine(text, i);
        }
        text.length = 0;
        now.begin();
        seen.count = 0;
        keptBits = 0;
        came.begin();
        return text.lines;
    }

    public int one(int one, int what) {
        if (!told.hasOne(one)) {
            return UNKNOWN;
        }
        switch (what) {
            case 0: return told.oneKind[one];
            case 1: return told.placesOf(one);
            case 2: return now.known >> one & 1;
            case 3: return told.nightsOf(one);
            default: return OUTSIDE;
        }
    }

    public int as(int one, int kind) {
        if (!told.hasOne(one)) {
            return UNKNOWN;
        }
        if (kind < 0 || kind >= OVER_ONE.length) {
            return OUTSIDE;
        }
        if (!isUnder(OVER_ONE, told.oneKind[one] + 1, kind)) {
            return NOT;
        }
        return now.ownWith(one);
    }

    public int thing(int thing, int what) {
        if (!told.hasThing(thing)) {
            return UNKNOWN;
        }
        switch (what) {
            case 0: return told.thingKind[thing];
            case 1: return told.look[thing];
            case 2: return told.word[thing];
            case 3: return now.power[thing];
            case 4: return now.placeOf(thing);
            case 5: return now.worked[thing];
            default: return OUTSIDE;
        }
    }

    public int thingAs(int thing, int kind) {
        if (!told.hasThing(thing)) {
            return UNKNOWN;
        }
        if (kind < 0 || kind >= OVER_THING.length) {
            return OUTSIDE;
        }
        if (!isUnder(OVER_THING, THING_STANDS[told.thingKind[thing]], kind)) {
            return NOT;
        }
        return now.works(thing, now.placeOf(thing), told.word[thing]) ? 1 : 0;
    }

    public int place(int place, int what) {
        if (!told.hasThing(place)) {
            return UNKNOWN;
        }
        switch (what) {
            case 0: return told.keeper[place];
            case 1: return now.lying[place];
            case 2: return now.changesAt[place];
            default: return OUTSIDE;
        }
    }

    // ---- nights, words

    public int may(int night, int a, int b) {
        if (!told.hasNight(night) || !told.hasThing(a) || !told.hasThing(b)) {
            return UNKNOWN;
        }
        if (a == b) {
            return OUTSIDE;
        }
        return told.allows(night, a, b) ? 1 : 0;
    }

    public int pass(int a, int b) {
        if (a != NONE && !told.hasThing(a) || b != NONE && !told.hasThing(b)) {
            return UNKNOWN;
        }
        boolean still = a == NONE && b == NONE;
        if (!still && (a == b || a == NONE || b == NONE)) {
            return OUTSIDE;
        }
        if (now.passed >= told.nights) {
            return NOT;
        }
        if (!still) {
            if (!told.allows(now.passed, a, b)) {
                return NOT;
            }
            now.change(a, b);
        }
        now.passed++;
        return now.passed;
    }

    public int say(int place, int word) {
        if (!told.hasThing(place)) {
            return UNKNOWN;
        }
        if (word < 0 || word >= WORDS) {
            return OUTSIDE;
        }
        return now.hear(place, word) ? 1 : 0;
    }

    public int keep(int k) {
        if (k < 0 || k >= MOST_KEPT) {
            return UNKNOWN;
        }
        kept[k].copy(now);
        keptBits |= 1 << k;
        return now.passed;
    }

    public int back(int k) {
        if (k < 0 || k >= MOST_KEPT) {
            return UNKNOWN;
        }
        if ((keptBits >> k & 1) == 0) {
            return NOT;
        }
        now.copy(kept[k]);
        return now.passed;
    }

    // ---- foretold

    public int rings() {
        return now.ringCount();
    }

    public int mend(int i, int side) {
        if (i < NONE || side < 0 || side > 1) {
            return OUTSIDE;
        }
        int steps = mend.find();
        if (i == NONE) {
            return steps;
        }
        if (i >= steps) {
            return NONE;
        }
        return side == 0 ? mend.lesser[i] : mend.other[i];
    }

    public int show(int one) {
        if (!told.hasOne(one)) {
            return UNKNOWN;
        }
        return now.showable(one);
    }

    public int plan(int what) {
        if (what < 0 || what > 1) {
            return OUTSIDE;
        }
        plan.find();
        return what == 0 ? plan.charms : plan.changes;
    }

    public int planned(int night, int side) {
        if (!told.hasNight(night) || night < now.passed) {
            return UNKNOWN;
        }
        if (side < 0 || side > 1) {
            return OUTSIDE;
        }
        plan.find();
        return side == 0 ? plan.lesser[night] : plan.other[night];
    }

    // ---- what was seen

    public int seen(int place, int word, int worked) {
        if (!told.hasThing(place)) {
            return UNKNOWN;
        }
        if (word < 0 || word >= WORDS || worked < 0 || worked > 1) {
            return OUTSIDE;
        }
        return seen.append(place, word, worked == 1) ? seen.count : FULL;
    }

    public int forget() {
        int were = seen.count;
        seen.count = 0;
        return were;
    }

    public int fit() {
        fits.weigh();
        return fits.all;
    }

    public int lies(int place) {
        if (!told.hasThing(place)) {
            return UNKNOWN;
        }
        fits.weigh();
        return fits.mayLie(place);
    }

    public int sure() {
        fits.weigh();
        return fits.surePlaces();
    }

    public int odds(int place, int part) {
        if (!told.hasThing(place)) {
            return UNKNOWN;
        }
        if (part < 0 || part > 1) {
            return OUTSIDE;
        }
        fits.weigh();
        if (fits.all == 0) {
            return NOT;
        }
        int with = fits.withCharm(place);
        int divisor = commonDivisor(with, fits.all);
        return (part == 0 ? with : fits.all) / divisor;
    }

    public int next(int what) {
        if (what < 0 || what > 2) {
            return OUTSIDE;
        }
        fits.weigh();
        if (told.things == 0 || fits.all == 0) {
            return NONE;
        }
        int pair = fits.bestPair();
        switch (what) {
            case 0: return pair / WORDS;
            case 1: return pair % WORDS;
            default: return fits.leftAtMost(pair / WORDS, pair % WORDS);
        }
    }

    public int apart(int i) {
        if (i < NONE) {
            return OUTSIDE;
        }
        int pairs = apart.find();
        if (i == NONE) {
            return pairs;
        }
        return i < pairs ? apart.chosen[i] : NONE;
    }

    public int came(int what) {
        if (what < 0 || what > 1) {
            return OUTSIDE;
        }
        came.find();
        if (came.ways == 0) {
            return NONE;
        }
        return what == 0 ? came.fewest : came.ways;
    }

    public int count(int what) {
        switch (what) {
            case 0: return told.people;
            case 1: return told.things;
            case 2: return told.nights;
            case 3: return now.passed;
            case 4: return now.changes;
            case 5: return now.known;
            case 6: return now.atHome();
            case 7: return told.arrangements();
            case 8: return seen.count;
            case 9: return text.length;
            default: return OUTSIDE;
        }
    }

    private static boolean isUnder(int[] over, int kind, int sought) {
        int at = kind;
        for (int step = 0; step < over.length && at >= 0 && at < over.length; step++) {
            if (at == sought) {
                return true;
            }
            at = over[at];
        }
        return false;
    }

    /** 1 at the least, so that it can always divide. */
    private static int commonDivisor(int a, int b) {
        int above = a;
        int below = b;
        for (int step = 0; step < 64 && below > 0; step++) {
            int rest = above % below;
            above = below;
            below = rest;
        }
        return Math.max(above, 1);
    }

    /** THE TEXT, and what its last reading found. */
    private static final class Text {
        final int[] bytes = new int[MOST_BYTES];
        int length;
        /** The word of each line that was read, and its numbers. */
        final int[] lineWord = new int[MOST_LINES];
        final int[] number = new int[MOST_LINES * MOST_NUMBERS];
        int lines;
        /** The token at which reading stands: its first byte, and the one behind it. */
        private int from, to;
        /** How many there are behind the lines that were read. */
        private int people, things, nights;

        boolean append(int c) {
            if (length >= MOST_BYTES) {
                return false;
            }
            bytes[length] = c;
            length++;
            return true;
        }

        /** Reads from such a state on; answers the place of the fault, or NONE. */
        int read(int peopleAhead, int thingsAhead, int nightsAhead) {
            people = peopleAhead;
            things = thingsAhead;
            nights = nightsAhead;
            lines = 0;
            to = 0;
            for (int i = 0; i < MOST_LINES; i++) {
                step();
                int word = wordHere();
                if (word == NONE || !hasRoom(word)) {
                    return from;
                }
                lineWord[i] = word;
                if (!readNumbers(i, numbersOf(word))) {
                    return from;
                }
                grow(word);
                lines = i + 1;
                step();
                if (from >= length) {
                    return NONE;
                }
                if (bytes[from] != SEMICOLON) {
                    return from;
                }
            }
            // no line can follow the last one, so the sign between lines cannot either
            return from;
        }

        /** Goes on to the next token; at the end, from is the length. */
        private void step() {
            from = to;
            while (from < length && bytes[from] == BLANK) {
                from++;
            }
            to = from;
            if (from >= length) {
                return;
            }
            if (isLetter(bytes[from])) {
                while (to < length && isLetter(bytes[to])) {
                    to++;
                }
            } else if (isDigit(bytes[from])) {
                while (to < length && isDigit(bytes[to])) {
                    to++;
                }
            } else {
                to++;
            }
        }

        private static boolean isLetter(int c) {
            return c >= 'a' && c <= 'z';
        }

        private static boolean isDigit(int c) {
            return c >= '0' && c <= '9';
        }

        private int wordHere() {
            for (int word = 0; word < LINE_WORDS; word++) {
                if (standsHere(spelling(word))) {
                    return word;
                }
            }
            return NONE;
        }

        private boolean standsHere(String word) {
            if (to - from != word.length()) {
                return false;
            }
            for (int i = 0; i < word.length() && from + i < length; i++) {
                if (bytes[from + i] != word.charAt(i)) {
                    return false;
                }
            }
            return true;
        }

        private static String spelling(int word) {
            switch (word) {
                case SAYS_INN: return "inn";
                case SAYS_GUEST: return "guest";
                case SAYS_GUEST + WATCHER: return "watcher";
                case SAYS_GUEST + LENDER: return "lender";
                case SAYS_HOST: return "host";
                case SAYS_DULL: return "dull";
                case SAYS_TRUE: return "true";
                case SAYS_FADING: return "fading";
                case SAYS_MOODY: return "moody";
                case SAYS_NIGHT: return "night";
                default: return "power";
            }
        }

        /** The numbers behind a word: Look, Keeper, Word, Power, Set of people, Item (a thing). */
        private static String numbersOf(int word) {
            switch (word) {
                case SAYS_DULL: return "LK";
                case SAYS_TRUE: return "LKW";
                case SAYS_FADING: return "LKWP";
                case SAYS_MOODY: return "LKW";
                case SAYS_NIGHT: return "S";
                case SAYS_POWER: return "IP";
                default: return "";
            }
        }

        /** The least number that is too much for its letter. */
        private int bound(char letter) {
            switch (letter) {
                case 'L': return LOOKS;
                case 'K': return people;
                case 'W': return WORDS;
                case 'P': return POWERS;
                case 'S': return 1 << people;
                default: return things;
            }
        }

        private boolean readNumbers(int line, String letters) {
            for (int i = 0; i < letters.length() && i < MOST_NUMBERS; i++) {
                step();
                int value = numberHere();
                if (value == NONE || value >= bound(letters.charAt(i))) {
                    return false;
                }
                number[line * MOST_NUMBERS + i] = value;
            }
            return true;
        }

        private int numberHere() {
            int digits = to - from;
            if (digits < 1 || digits > 2 || !isDigit(bytes[from])) {
                return NONE;
            }
            int value = 0;
            for (int i = from; i < to; i++) {
                value = value * 10 + bytes[i] - '0';
            }
            return value;
        }

        private boolean hasRoom(int word) {
            if (isOfPeople(word)) {
                return people < MOST_PEOPLE;
            }
            if (isOfThings(word)) {
                return things < MOST_THINGS;
            }
            return word != SAYS_NIGHT || nights < MOST_NIGHTS;
        }

        private void grow(int word) {
            if (word == SAYS_INN) {
                people = 0;
                things = 0;
                nights = 0;
            } else if (isOfPeople(word)) {
                people++;
            } else if (isOfThings(word)) {
                things++;
            } else if (word == SAYS_NIGHT) {
                nights++;
            }
        }

        static boolean isOfPeople(int word) {
            return word >= SAYS_GUEST && word <= SAYS_HOST;
        }

        static boolean isOfThings(int word) {
            return word >= SAYS_DULL && word <= SAYS_MOODY;
        }

        /** The number behind a line's word for that letter; 0, where it is not told. */
        int numberOf(int line, char letter) {
            int i = numbersOf(lineWord[line]).indexOf(letter);
            return i < 0 || i >= MOST_NUMBERS ? 0 : number[line * MOST_NUMBERS + i];
        }
    }

    /** What texts told: it stays till the next text. */
    private static final class Told {
        int people, things, nights;
        final int[] oneKind = new int[MOST_PEOPLE];
        final int[] thingKind = new int[MOST_THINGS];
        final int[] look = new int[MOST_THINGS];
        final int[] word = new int[MOST_THINGS];
        final int[] power = new int[MOST_THINGS];
        final int[] keeper = new int[MOST_THINGS];
        final int[] sleepers = new int[MOST_NIGHTS];

        /** Does a line of a text that was read without a fault from this state on. */
        void doLine(Text text, int line) {
            int says = text.lineWord[line];
            if (says == SAYS_INN) {
                people = 0;
                things = 0;
                nights = 0;
            } else if (Text.isOfPeople(says)) {
                addOne(says - SAYS_GUEST);
            } else if (Text.isOfThings(says)) {
                addThing(says - SAYS_DULL, text, line);
            } else if (says == SAYS_NIGHT) {
                addNight(text.numberOf(line, 'S'));
            } else {
                tellPower(text.numberOf(line, 'I'), text.numberOf(line, 'P'));
            }
        }

        private void addOne(int kind) {
            if (people < MOST_PEOPLE) {
                oneKind[people] = kind;
                people++;
            }
        }

        private void addThing(int kind, Text text, int line) {
            if (things < MOST_THINGS) {
                thingKind[things] = kind;
                look[things] = text.numberOf(line, 'L');
                keeper[things] = text.numberOf(line, 'K');
                word[things] = text.numberOf(line, 'W');
                power[things] = text.numberOf(line, 'P');
                things++;
            }
        }

        private void addNight(int set) {
            if (nights < MOST_NIGHTS) {
                sleepers[nights] = set;
                nights++;
            }
        }

        private void tellPower(int thing, int value) {
            if (hasThing(thing)) {
                power[thing] = value;
            }
        }

        boolean hasOne(int one) {
            return one >= 0 && one < people;
        }

        /** Of a place, too: they are of the things' numbers. */
        boolean hasThing(int thing) {
            return thing >= 0 && thing < things;
        }

        boolean hasNight(int night) {
            return night >= 0 && night < nights;
        }

        int placesOf(int one) {
            int bits = 0;
            for (int p = 0; p < things; p++) {
                if (keeper[p] == one) {
                    bits |= 1 << p;
                }
            }
            return bits;
        }

        int nightsOf(int one) {
            int bits = 0;
            for (int n = 0; n < nights; n++) {
                if (sleeps(one, n)) {
                    bits |= 1 << n;
                }
            }
            return bits;
        }

        private boolean sleeps(int one, int night) {
            return oneKind[one] == HOST || (sleepers[night] >> one & 1) == 1;
        }

        boolean isKeptBy(int place, int kind) {
            return oneKind[keeper[place]] == kind;
        }

        /** A change of two places may be in a night. */
        boolean allows(int night, int a, int b) {
            return look[a] == look[b] && isOpen(night, a) && isOpen(night, b);
        }

        private boolean isOpen(int night, int place) {
            return sleeps(keeper[place], night) && !isKeptBy(place, WATCHER);
        }

        boolean isCharm(int thing) {
            return thingKind[thing] != DULL;
        }

        /** How many ways there are in which things can lie in places of their look. */
        int arrangements() {
            int product = 1;
            for (int p = 0; p < things; p++) {
                int alike = 0;
                for (int q = 0; q <= p; q++) {
                    if (look[q] == look[p]) {
                        alike++;
                    }
                }
                product *= alike;
            }
            return product;
        }
    }

    /** What nights and words change; what is kept is such a state, too. */
    private static final class Now {
        private final Told told;
        int passed, changes, known;
        /** The thing in each place. */
        final int[] lying = new int[MOST_THINGS];
        final int[] changesAt = new int[MOST_THINGS];
        final int[] power = new int[MOST_THINGS];
        final int[] worked = new int[MOST_THINGS];

        Now(Told told) {
            this.told = told;
        }

        /** As it is ahead of night 0. */
        void begin() {
            passed = 0;
            changes = 0;
            known = 0;
            for (int i = 0; i < MOST_THINGS; i++) {
                lying[i] = i;
                changesAt[i] = 0;
                power[i] = told.power[i];
                worked[i] = 0;
            }
        }

        void copy(Now from) {
            passed = from.passed;
            changes = from.changes;
            known = from.known;
            System.arraycopy(from.lying, 0, lying, 0, MOST_THINGS);
            System.arraycopy(from.changesAt, 0, changesAt, 0, MOST_THINGS);
            System.arraycopy(from.power, 0, power, 0, MOST_THINGS);
            System.arraycopy(from.worked, 0, worked, 0, MOST_THINGS);
        }

        int placeOf(int thing) {
            for (int p = 0; p < told.things; p++) {
                if (lying[p] == thing) {
                    return p;
                }
            }
            return thing;
        }

        void change(int a, int b) {
            int was = lying[a];
            lying[a] = lying[b];
            lying[b] = was;
            changesAt[a]++;
            changesAt[b]++;
            changes++;
        }

        /** A thing would work, if it lay in that place and its keeper said that word now. */
        boolean works(int thing, int place, int word) {
            if (told.word[thing] != word) {
                return false;
            }
            switch (told.thingKind[thing]) {
                case TRUE: return true;
                case FADING: return power[thing] > 0;
                case MOODY: return told.keeper[place] == told.keeper[thing] || told.isKeptBy(place, LENDER);
                default: return false;
            }
        }

        /** A word is said in a place: it worked. */
        boolean hear(int place, int word) {
            int thing = lying[place];
            if (works(thing, place, word)) {
                worked[thing]++;
                if (told.thingKind[thing] == FADING) {
                    power[thing]--;
                }
                return true;
            }
            if (!told.isKeptBy(place, HOST) && told.isCharm(place) && told.word[place] == word) {
                known |= 1 << told.keeper[place];
            }
            return false;
        }

        /** How many things of his own lie in his places, in any of them. */
        int ownWith(int one) {
            int own = 0;
            for (int p = 0; p < told.things; p++) {
                if (told.keeper[p] == one && told.keeper[lying[p]] == one) {
                    own++;
                }
            }
            return own;
        }

        int atHome() {
            int bits = 0;
            for (int p = 0; p < told.things; p++) {
                if (lying[p] == p) {
                    bits |= 1 << p;
                }
            }
            return bits;
        }

        int ringCount() {
            int rings = 0;
            int gone = 0;
            for (int p = 0; p < told.things; p++) {
                if ((gone >> p & 1) == 0) {
                    rings++;
                }
                int at = p;
                for (int step = 0; step < told.things && (gone >> at & 1) == 0; step++) {
                    gone |= 1 << at;
                    at = lying[at];
                }
            }
            return rings;
        }

        int showable(int one) {
            int shown = 0;
            for (int p = 0; p < told.things; p++) {
                if (told.keeper[p] == one && works(lying[p], p, told.word[p])) {
                    shown++;
                }
            }
            return shown;
        }
    }

    /** The fewest changes by which each thing lies in its own place. */
    private static final class Mend {
        private final Told told;
        private final Now now;
        final int[] lesser = new int[MOST_THINGS];
        final int[] other = new int[MOST_THINGS];
        private final int[] lying = new int[MOST_THINGS];

        Mend(Told told, Now now) {
            this.told = told;
            this.now = now;
        }

        /** How many changes, which stand in the rows then; NONE: a watcher's place would be of them. */
        int find() {
            System.arraycopy(now.lying, 0, lying, 0, MOST_THINGS);
            for (int p = 0; p < told.things; p++) {
                if (lying[p] != p && told.isKeptBy(p, WATCHER)) {
                    return NONE;
                }
            }
            int steps = 0;
            // all places below p are mended, so p is the least one in which another thing lies
            for (int p = 0; p < told.things; p++) {
                if (lying[p] != p) {
                    int q = placeOfOwn(p);
                    lesser[steps] = p;
                    other[steps] = q;
                    steps++;
                    lying[q] = lying[p];
                    lying[p] = p;
                }
            }
            return steps;
        }

        private int placeOfOwn(int place) {
            for (int q = place; q < told.things; q++) {
                if (lying[q] == place) {
                    return q;
                }
            }
            return place;
        }
    }

    /** The host's best plan for the nights to come. */
    private static final class Plan {
        private static final int SETS = 1 << MOST_THINGS;
        /** A charm more outweighs all changes that there can be. */
        private static final int CHARM_WEIGHT = 16;

        private final Told told;
        private final Now now;
        /** From each night on, by the places in which charms lie (which of them does not matter). */
        private final int[][] best = new int[MOST_NIGHTS + 1][SETS];
        final int[] lesser = new int[MOST_NIGHTS];
        final int[] other = new int[MOST_NIGHTS];
        int charms, changes;

        Plan(Told told, Now now) {
            this.told = told;
            this.now = now;
        }

        void find() {
            int set = charmSet();
            weighEnds(Integer.bitCount(set));
            for (int night = told.nights - 1; night >= now.passed; night--) {
                weighNight(night, Integer.bitCount(set));
            }
            changes = 0;
            for (int night = now.passed; night < told.nights; night++) {
                set = chooseChange(night, set);
            }
            charms = Integer.bitCount(set & hostPlaces());
        }

        private int charmSet() {
            int set = 0;
            for (int p = 0; p < told.things; p++) {
                if (told.isCharm(now.lying[p])) {
                    set |= 1 << p;
                }
            }
            return set;
        }

        private int hostPlaces() {
            int set = 0;
            for (int p = 0; p < told.things; p++) {
                if (told.isKeptBy(p, HOST)) {
                    set |= 1 << p;
                }
            }
            return set;
        }

        private void weighEnds(int size) {
            int host = hostPlaces();
            for (int set = 0; set < SETS; set++) {
                if (Integer.bitCount(set) == size) {
                    best[told.nights][set] = CHARM_WEIGHT * Integer.bitCount(set & host);
                }
            }
        }

        private void weighNight(int night, int size) {
            for (int set = 0; set < SETS; set++) {
                if (Integer.bitCount(set) == size) {
                    best[night][set] = best[night + 1][set];
                }
            }
            for (int a = 0; a < told.things; a++) {
                for (int b = a + 1; b < told.things; b++) {
                    if (told.allows(night, a, b)) {
                        weighChange(night, a, b, size);
                    }
                }
            }
        }

        private void weighChange(int night, int a, int b, int size) {
            for (int set = 0; set < SETS; set++) {
                if (Integer.bitCount(set) == size) {
                    int value = best[night + 1][exchanged(set, a, b)] - 1;
                    best[night][set] = Math.max(best[night][set], value);
                }
            }
        }

        private static int exchanged(int set, int a, int b) {
            int differ = (set >> a ^ set >> b) & 1;
            return set ^ (differ << a | differ << b);
        }

        /** Takes the first change of a night that is of a best plan; answers where charms lie behind it. */
        private int chooseChange(int night, int set) {
            lesser[night] = NONE;
            other[night] = NONE;
            if (best[night + 1][set] == best[night][set]) {
                return set;
            }
            for (int a = 0; a < told.things; a++) {
                for (int b = a + 1; b < told.things; b++) {
                    int behind = exchanged(set, a, b);
                    if (told.allows(night, a, b) && best[night + 1][behind] - 1 == best[night][set]) {
                        lesser[night] = a;
                        other[night] = b;
                        changes++;
                        return behind;
                    }
                }
            }
            return set;
        }
    }

    /** What was seen. */
    private static final class Seen {
        int count;
        private final int[] place = new int[MOST_SEEN];
        private final int[] word = new int[MOST_SEEN];
        private final boolean[] worked = new boolean[MOST_SEEN];

        boolean append(int atPlace, int atWord, boolean didWork) {
            if (count >= MOST_SEEN) {
                return false;
            }
            place[count] = atPlace;
            word[count] = atWord;
            worked[count] = didWork;
            count++;
            return true;
        }

        /** All that was seen in a place is so, if that thing lies there. */
        boolean agrees(Now now, int thing, int atPlace) {
            for (int i = 0; i < count; i++) {
                if (place[i] == atPlace && now.works(thing, atPlace, word[i]) != worked[i]) {
                    return false;
                }
            }
            return true;
        }
    }

    /** Arrangements that fit what was seen, counted without going through them one by one. */
    private static final class Fits {
        private static final int SETS = 1 << MOST_THINGS;

        private final Told told;
        private final Now now;
        private final Seen seen;
        /** Of each place, the things that can lie there by what was seen in it alone, by bits. */
        final int[] allowed = new int[MOST_THINGS];
        /** By the things that lie in the first places: in how many ways they lie there. */
        private final int[] head = new int[SETS];
        /** By the same things: in how many ways the others lie in the other places. */
        final int[] tail = new int[SETS];
        /** Of each place and thing: how many that fit lay it there. */
        private final int[] lying = new int[MOST_THINGS * MOST_THINGS];
        int all;

        Fits(Told told, Now now, Seen seen) {
            this.told = told;
            this.now = now;
            this.seen = seen;
        }

        /** Counts anew, for what was seen and the powers may be others than last time. */
        void weigh() {
            for (int p = 0; p < told.things; p++) {
                allowed[p] = allowedIn(p);
            }
            int full = (1 << told.things) - 1;
            weighHeads(full);
            weighTails(full);
            all = tail[0];
            weighLying(full);
        }

        private int allowedIn(int place) {
            int bits = 0;
            for (int t = 0; t < told.things; t++) {
                if (told.look[t] == told.look[place] && seen.agrees(now, t, place)) {
                    bits |= 1 << t;
                }
            }
            return bits;
        }

        private void weighHeads(int full) {
            head[0] = 1;
            for (int set = 1; set <= full; set++) {
                int last = set & allowed[Integer.bitCount(set) - 1];
                int sum = 0;
                for (int t = 0; t < told.things; t++) {
                    if ((last >> t & 1) == 1) {
                        sum += head[set ^ 1 << t];
                    }
                }
                head[set] = sum;
            }
        }

        private void weighTails(int full) {
            tail[full] = 1;
            for (int set = full - 1; set >= 0; set--) {
                int first = allowed[Integer.bitCount(set)] & ~set;
                int sum = 0;
                for (int t = 0; t < told.things; t++) {
                    if ((first >> t & 1) == 1) {
                        sum += tail[set | 1 << t];
                    }
                }
                tail[set] = sum;
            }
        }

        private void weighLying(int full) {
            Arrays.fill(lying, 0);
            for (int set = 0; set < full; set++) {
                int place = Integer.bitCount(set);
                int here = allowed[place] & ~set;
                for (int t = 0; t < told.things; t++) {
                    if ((here >> t & 1) == 1) {
                        lying[place * MOST_THINGS + t] += head[set] * tail[set | 1 << t];
                    }
                }
            }
        }

        int mayLie(int place) {
            int bits = 0;
            for (int t = 0; t < told.things; t++) {
                if (lying[place * MOST_THINGS + t] > 0) {
                    bits |= 1 << t;
                }
            }
            return bits;
        }

        int surePlaces() {
            int bits = 0;
            for (int p = 0; p < told.things; p++) {
                if (Integer.bitCount(mayLie(p)) == 1) {
                    bits |= 1 << p;
                }
            }
            return bits;
        }

        int withCharm(int place) {
            int sum = 0;
            for (int t = 0; t < told.things; t++) {
                if (told.isCharm(t)) {
                    sum += lying[place * MOST_THINGS + t];
                }
            }
            return sum;
        }

        /** How many are left at the most, by either answer. */
        int leftAtMost(int place, int word) {
            int working = 0;
            for (int t = 0; t < told.things; t++) {
                if (now.works(t, place, word)) {
                    working += lying[place * MOST_THINGS + t];
                }
            }
            return Math.max(working, all - working);
        }

        /** The pair (4 times the place and the word) that leaves fewest at the most. */
        int bestPair() {
            int best = 0;
            int fewest = leftAtMost(0, 0);
            for (int pair = 1; pair < told.things * WORDS; pair++) {
                int left = leftAtMost(pair / WORDS, pair % WORDS);
                if (left < fewest) {
                    best = pair;
                    fewest = left;
                }
            }
            return best;
        }
    }

    /** The fewest words by which all that fit are told apart. */
    private static final class Apart {
        /** No more can be told apart by the answers to so many pairs. */
        private static final int MOST_APART = 1 << MOST_PAIRS;

        private final Told told;
        private final Now now;
        private final Fits fits;
        /** Of each pair: by which of the arrangements it works, by bits. */
        private final int[] working = new int[MOST_THINGS * WORDS];
        /** Those not told apart by the first pairs: of d pairs they begin at 1 << d, each splits into 2i, 2i + 1. */
        private final int[] alike = new int[2 * MOST_APART];
        private final int[] lying = new int[MOST_THINGS];
        private int gathered;
        final int[] chosen = new int[MOST_PAIRS];

        Apart(Told told, Now now, Fits fits) {
            this.told = told;
            this.now = now;
            this.fits = fits;
        }

        /** How many pairs, which stand in the row then; NONE: so many are not enough. */
        int find() {
            fits.weigh();
            if (fits.all > MOST_APART) {
                return NONE;
            }
            Arrays.fill(working, 0);
            gathered = 0;
            gather(0, 0);
            alike[1] = (1 << gathered) - 1;
            for (int size = 0; size <= MOST_PAIRS; size++) {
                if (choose(0, 0, size)) {
                    return size;
                }
            }
            return NONE;
        }

        /** Goes through all that fit, the places below this one being filled with that set of things. */
        private void gather(int place, int set) {
            if (fits.tail[set] == 0 || gathered >= MOST_APART) {
                return;
            }
            if (place >= told.things) {
                noteAnswers();
                gathered++;
                return;
            }
            int here = fits.allowed[place] & ~set;
            for (int t = 0; t < told.things; t++) {
                if ((here >> t & 1) == 1) {
                    lying[place] = t;
                    gather(place + 1, set | 1 << t);
                }
            }
        }

        private void noteAnswers() {
            for (int p = 0; p < told.things; p++) {
                for (int w = 0; w < WORDS; w++) {
                    if (now.works(lying[p], p, w)) {
                        working[p * WORDS + w] |= 1 << gathered;
                    }
                }
            }
        }

        /** Takes the first pairs, none below that one, by which so many in all tell all apart. */
        private boolean choose(int depth, int firstPair, int size) {
            if (isTooCoarse(depth, 1 << size - depth)) {
                return false;
            }
            if (depth >= size || depth >= MOST_PAIRS) {
                return true;
            }
            for (int pair = firstPair; pair < told.things * WORDS; pair++) {
                chosen[depth] = pair;
                split(depth, working[pair]);
                if (choose(depth + 1, pair + 1, size)) {
                    return true;
                }
            }
            return false;
        }

        private boolean isTooCoarse(int depth, int most) {
            for (int i = 1 << depth; i < 2 << depth; i++) {
                if (Integer.bitCount(alike[i]) > most) {
                    return true;
                }
            }
            return false;
        }

        private void split(int depth, int by) {
            for (int i = 1 << depth; i < 2 << depth; i++) {
                alike[2 * i] = alike[i] & ~by;
                alike[2 * i + 1] = alike[i] & by;
            }
        }
    }

    /** By how few changes arrangements could have come in the nights that were. */
    private static final class Came {
        /** More than the nights' changes can be. */
        private static final int NEVER = MOST_NIGHTS + 1;
        private static final int BITS = 3, MASK = 7;

        private final Told told;
        private final Now now;
        private final Fits fits;
        /** All arrangements, the thing of place 0 in the highest bits, rising. */
        private final int[] way = new int[MOST_WAYS];
        private int wayCount;
        /** The fewest changes by which each came in the first nights, and how many nights these are. */
        private final int[] reached = new int[MOST_WAYS];
        private int nights;
        int fewest, ways;

        Came(Told told, Now now, Fits fits) {
            this.told = told;
            this.now = now;
            this.fits = fits;
            nights = NONE;
        }

        /** Another text was told: nothing that was found out before holds. */
        void begin() {
            nights = NONE;
        }

        void find() {
            if (nights == NONE) {
                wayCount = 0;
                list(0, 0, 0);
            }
            // nights are taken one by one, and those that did not pass cannot be taken back
            if (nights == NONE || nights > now.passed) {
                startAtHome();
            }
            for (; nights < now.passed; nights++) {
                goOn();
            }
            fits.weigh();
            fewest = NEVER;
            ways = 0;
            for (int i = 0; i < wayCount; i++) {
                if (reached[i] < NEVER && isFit(way[i])) {
                    ways++;
                    fewest = Math.min(fewest, reached[i]);
                }
            }
        }

        private void list(int place, int set, int packed) {
            if (place >= told.things) {
                if (wayCount < MOST_WAYS) {
                    way[wayCount] = packed;
                    wayCount++;
                }
                return;
            }
            for (int t = 0; t < told.things; t++) {
                if (told.look[t] == told.look[place] && (set >> t & 1) == 0) {
                    list(place + 1, set | 1 << t, packed << BITS | t);
                }
            }
        }

        private void startAtHome() {
            Arrays.fill(reached, NEVER);
            // by rising numbers, things in their own places are the first of all
            reached[0] = 0;
            nights = 0;
        }

        /** One night more. Those that came by most changes go first, so that none is changed twice in it. */
        private void goOn() {
            for (int done = nights; done >= 0; done--) {
                for (int i = 0; i < wayCount; i++) {
                    if (reached[i] == done) {
                        spread(way[i], done + 1);
                    }
                }
            }
        }

        private void spread(int from, int changes) {
            for (int a = 0; a < told.things; a++) {
                for (int b = a + 1; b < told.things; b++) {
                    if (told.allows(nights, a, b)) {
                        int i = indexOf(exchanged(from, a, b));
                        reached[i] = Math.min(reached[i], changes);
                    }
                }
            }
        }

        private int shiftOf(int place) {
            return BITS * (told.things - 1 - place);
        }

        private int exchanged(int packed, int a, int b) {
            int differ = (packed >> shiftOf(a) ^ packed >> shiftOf(b)) & MASK;
            return packed ^ (differ << shiftOf(a) | differ << shiftOf(b));
        }

        private int indexOf(int packed) {
            int low = 0;
            int high = wayCount - 1;
            // each step halves what is left, so a dozen is enough for all ways
            for (int step = 0; step < 12 && low < high; step++) {
                int middle = (low + high) / 2;
                if (way[middle] < packed) {
                    low = middle + 1;
                } else {
                    high = middle;
                }
            }
            return low;
        }

        private boolean isFit(int packed) {
            for (int p = 0; p < told.things; p++) {
                int thing = packed >> shiftOf(p) & MASK;
                if ((fits.allowed[p] >> thing & 1) == 0) {
                    return false;
                }
            }
            return true;
        }
    }
}
