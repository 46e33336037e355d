import java.util.ArrayList;
import java.util.Arrays;
import java.util.HashMap;
import java.util.HashSet;
import java.util.List;
import java.util.Map;
import java.util.Set;
import java.util.regex.Matcher;
import java.util.regex.Pattern;

/** The document done the slow way: all arrangements one by one, all sets, all plans. Nothing is shared with the class. */
final class Model {
    static final int NONE = -1, UNKNOWN = -2, OUTSIDE = -3, NOT = -4, FULL = -5;
    private static final Pattern TOKEN = Pattern.compile("[a-z]+|[0-9]+|[^ ]", Pattern.DOTALL);

    record Thing(String kind, int look, int keeper, int word, int power) {
    }

    record Sight(int place, int word, int worked) {
    }

    record State(int passed, List<Integer> lying, List<Integer> power, List<Integer> worked, List<Integer> moved,
            int changes, Set<Integer> known) {
    }

    record Outcome(int charms, int changes, List<Integer> row) {
    }

    private StringBuilder text = new StringBuilder();
    private List<String> people = new ArrayList<>();
    private List<Thing> things = new ArrayList<>();
    private List<Integer> nights = new ArrayList<>();
    private State state = new State(0, List.of(), List.of(), List.of(), List.of(), 0, Set.of());
    private final State[] kept = new State[2];
    private final List<Sight> sights = new ArrayList<>();

    // ---- the text

    int write(int c) {
        if (c < 0 || c > 255) {
            return OUTSIDE;
        }
        if (text.length() == 160) {
            return FULL;
        }
        text.append((char) c);
        return text.length();
    }

    int erase() {
        int had = text.length();
        text.setLength(0);
        return had;
    }

    int fault() {
        return new Reading().fault;
    }

    int inn() {
        Reading reading = new Reading();
        if (reading.fault != NONE) {
            return NOT;
        }
        people = reading.people;
        things = reading.things;
        nights = reading.nights;
        text.setLength(0);
        List<Integer> lying = new ArrayList<>();
        List<Integer> power = new ArrayList<>();
        List<Integer> zeros = new ArrayList<>();
        for (int i = 0; i < things.size(); i++) {
            lying.add(i);
            power.add(things.get(i).power);
            zeros.add(0);
        }
        state = new State(0, lying, power, zeros, zeros, 0, Set.of());
        sights.clear();
        kept[0] = null;
        kept[1] = null;
        return reading.lines;
    }

    /** Tokens are taken from a list; a line is a word and what its pattern asks for. */
    private final class Reading {
        final List<String> people = new ArrayList<>(Model.this.people);
        final List<Thing> things = new ArrayList<>(Model.this.things);
        final List<Integer> nights = new ArrayList<>(Model.this.nights);
        private final List<String> tokens = new ArrayList<>();
        private final List<Integer> starts = new ArrayList<>();
        private int at = 0;
        int lines = 0;
        final int fault;

        Reading() {
            Matcher m = TOKEN.matcher(text);
            while (m.find()) {
                tokens.add(m.group());
                starts.add(m.start());
            }
            starts.add(text.length());
            fault = read() ? NONE : starts.get(at);
        }

        private String token() {
            return at < tokens.size() ? tokens.get(at) : "";
        }

        private boolean read() {
            while (true) {
                if (!line()) {
                    return false;
                }
                lines++;
                if (at == tokens.size()) {
                    return true;
                }
                if (!token().equals(";") || lines == 14) {
                    return false;
                }
                at++;
            }
        }

        private boolean line() {
            String word = token();
            switch (word) {
                case "inn":
                    people.clear();
                    things.clear();
                    nights.clear();
                    at++;
                    return true;
                case "guest", "watcher", "lender", "host":
                    if (people.size() == 5) {
                        return false;
                    }
                    people.add(word);
                    at++;
                    return true;
                case "dull", "true", "fading", "moody":
                    return things.size() < 6 && thing(word);
                case "night":
                    return nights.size() < 6 && night();
                case "power":
                    return power();
                default:
                    return false;
            }
        }

        private boolean thing(String kind) {
            at++;
            int[] bounds = {3, people.size(), 4, 10};
            int told = kind.equals("dull") ? 2 : kind.equals("fading") ? 4 : 3;
            int[] values = new int[4];
            for (int i = 0; i < told; i++) {
                if (!number(bounds[i])) {
                    return false;
                }
                values[i] = Integer.parseInt(tokens.get(at - 1));
            }
            things.add(new Thing(kind, values[0], values[1], values[2], values[3]));
            return true;
        }

        private boolean night() {
            at++;
            if (!number((int) Math.pow(2, people.size()))) {
                return false;
            }
            nights.add(Integer.parseInt(tokens.get(at - 1)));
            return true;
        }

        private boolean power() {
            at++;
            if (!number(things.size()) || !number(10)) {
                return false;
            }
            int i = Integer.parseInt(tokens.get(at - 2));
            Thing t = things.get(i);
            things.set(i, new Thing(t.kind, t.look, t.keeper, t.word, Integer.parseInt(tokens.get(at - 1))));
            return true;
        }

        private boolean number(int bound) {
            if (!token().matches("[0-9]{1,2}") || Integer.parseInt(token()) >= bound) {
                return false;
            }
            at++;
            return true;
        }
    }

    // ---- what is told

    private boolean noOne(int one) {
        return one < 0 || one >= people.size();
    }

    private boolean noThing(int thing) {
        return thing < 0 || thing >= things.size();
    }

    private boolean noNight(int night) {
        return night < 0 || night >= nights.size();
    }

    private String keeperKind(int place) {
        return people.get(things.get(place).keeper);
    }

    private boolean sleeps(int one, int night) {
        return people.get(one).equals("host") || (nights.get(night) / (1 << one)) % 2 == 1;
    }

    int one(int one, int what) {
        if (noOne(one)) {
            return UNKNOWN;
        }
        if (what < 0 || what > 3) {
            return OUTSIDE;
        }
        int sum = 0;
        if (what == 0) {
            return List.of("guest", "watcher", "lender", "host").indexOf(people.get(one));
        } else if (what == 1) {
            for (int p = 0; p < things.size(); p++) {
                sum += things.get(p).keeper == one ? 1 << p : 0;
            }
        } else if (what == 2) {
            return state.known.contains(one) ? 1 : 0;
        } else {
            for (int n = 0; n < nights.size(); n++) {
                sum += sleeps(one, n) ? 1 << n : 0;
            }
        }
        return sum;
    }

    int as(int one, int kind) {
        if (noOne(one)) {
            return UNKNOWN;
        }
        if (kind < 0 || kind > 4) {
            return OUTSIDE;
        }
        Map<String, String> above = Map.of("guest", "one guest", "watcher", "one guest watcher",
                "lender", "one guest lender", "host", "one host");
        String name = List.of("one", "guest", "watcher", "lender", "host").get(kind);
        if (!Arrays.asList(above.get(people.get(one)).split(" ")).contains(name)) {
            return NOT;
        }
        int sum = 0;
        for (int t = 0; t < things.size(); t++) {
            int place = state.lying.indexOf(t);
            sum += things.get(t).keeper == one && things.get(place).keeper == one ? 1 : 0;
        }
        return sum;
    }

    int thing(int thing, int what) {
        if (noThing(thing)) {
            return UNKNOWN;
        }
        Thing t = things.get(thing);
        return switch (what) {
            case 0 -> List.of("dull", "true", "fading", "moody").indexOf(t.kind);
            case 1 -> t.look;
            case 2 -> t.word;
            case 3 -> state.power.get(thing);
            case 4 -> state.lying.indexOf(thing);
            case 5 -> state.worked.get(thing);
            default -> OUTSIDE;
        };
    }

    int thingAs(int thing, int kind) {
        if (noThing(thing)) {
            return UNKNOWN;
        }
        if (kind < 0 || kind > 5) {
            return OUTSIDE;
        }
        Map<String, String> above = Map.of("dull", "thing dull", "true", "thing charm true",
                "fading", "thing charm fading", "moody", "thing charm true moody");
        String name = List.of("thing", "dull", "charm", "true", "fading", "moody").get(kind);
        if (!Arrays.asList(above.get(things.get(thing).kind).split(" ")).contains(name)) {
            return NOT;
        }
        return works(thing, state.lying.indexOf(thing), things.get(thing).word) ? 1 : 0;
    }

    int place(int place, int what) {
        if (noThing(place)) {
            return UNKNOWN;
        }
        return switch (what) {
            case 0 -> things.get(place).keeper;
            case 1 -> state.lying.get(place);
            case 2 -> state.moved.get(place);
            default -> OUTSIDE;
        };
    }

    // ---- nights, words

    private boolean allowed(int night, int a, int b) {
        if (things.get(a).look != things.get(b).look) {
            return false;
        }
        for (int p : new int[] {a, b}) {
            boolean host = keeperKind(p).equals("host");
            boolean sleeper = sleeps(things.get(p).keeper, night) && !keeperKind(p).equals("watcher");
            if (!host && !sleeper) {
                return false;
            }
        }
        return true;
    }

    int may(int night, int a, int b) {
        if (noNight(night) || noThing(a) || noThing(b)) {
            return UNKNOWN;
        }
        return a == b ? OUTSIDE : allowed(night, a, b) ? 1 : 0;
    }

    private static List<Integer> changed(List<Integer> lying, int a, int b) {
        List<Integer> row = new ArrayList<>(lying);
        row.set(a, lying.get(b));
        row.set(b, lying.get(a));
        return row;
    }

    private static List<Integer> plus(List<Integer> row, int i, int more) {
        List<Integer> other = new ArrayList<>(row);
        other.set(i, row.get(i) + more);
        return other;
    }

    int pass(int a, int b) {
        if (noThing(a) && a != NONE || noThing(b) && b != NONE) {
            return UNKNOWN;
        }
        boolean none = a == NONE && b == NONE;
        if (!none && (a == NONE || b == NONE || a == b)) {
            return OUTSIDE;
        }
        if (state.passed == nights.size() || !none && !allowed(state.passed, a, b)) {
            return NOT;
        }
        State s = state;
        state = none
                ? new State(s.passed + 1, s.lying, s.power, s.worked, s.moved, s.changes, s.known)
                : new State(s.passed + 1, changed(s.lying, a, b), s.power, s.worked,
                        plus(plus(s.moved, a, 1), b, 1), s.changes + 1, s.known);
        return state.passed;
    }

    private boolean works(int thing, int place, int word) {
        Thing t = things.get(thing);
        boolean able = t.kind.equals("true")
                || t.kind.equals("fading") && state.power.get(thing) > 0
                || t.kind.equals("moody") && (t.keeper == things.get(place).keeper || keeperKind(place).equals("lender"));
        return able && word == t.word;
    }

    int say(int place, int word) {
        if (noThing(place)) {
            return UNKNOWN;
        }
        if (word < 0 || word > 3) {
            return OUTSIDE;
        }
        State s = state;
        int thing = s.lying.get(place);
        if (works(thing, place, word)) {
            int wears = things.get(thing).kind.equals("fading") ? -1 : 0;
            state = new State(s.passed, s.lying, plus(s.power, thing, wears), plus(s.worked, thing, 1), s.moved,
                    s.changes, s.known);
            return 1;
        }
        Thing own = things.get(place);
        if (!keeperKind(place).equals("host") && !own.kind.equals("dull") && own.word == word) {
            Set<Integer> known = new HashSet<>(s.known);
            known.add(own.keeper);
            state = new State(s.passed, s.lying, s.power, s.worked, s.moved, s.changes, known);
        }
        return 0;
    }

    int keep(int k) {
        if (k != 0 && k != 1) {
            return UNKNOWN;
        }
        kept[k] = state;
        return state.passed;
    }

    int back(int k) {
        if (k != 0 && k != 1) {
            return UNKNOWN;
        }
        if (kept[k] == null) {
            return NOT;
        }
        state = kept[k];
        return state.passed;
    }

    // ---- foretold

    int rings() {
        Set<Set<Integer>> rings = new HashSet<>();
        for (int p = 0; p < things.size(); p++) {
            Set<Integer> ring = new HashSet<>();
            for (int at = p; ring.add(at);) {
                at = state.lying.get(at);
            }
            rings.add(ring);
        }
        return rings.size();
    }

    /** By going through all rows of changes, shorter ones first. */
    private int fewestToMend() {
        List<Integer> home = new ArrayList<>();
        for (int i = 0; i < things.size(); i++) {
            home.add(i);
        }
        Set<List<Integer>> front = new HashSet<>(Set.of(state.lying));
        for (int steps = 0; steps <= 6; steps++) {
            if (front.contains(home)) {
                return steps;
            }
            Set<List<Integer>> further = new HashSet<>();
            for (List<Integer> lying : front) {
                for (int a = 0; a < things.size(); a++) {
                    for (int b = 0; b < a; b++) {
                        if (things.get(a).look == things.get(b).look && !keeperKind(a).equals("watcher")
                                && !keeperKind(b).equals("watcher")) {
                            further.add(changed(lying, a, b));
                        }
                    }
                }
            }
            front = further;
        }
        return NONE;
    }

    int mend(int i, int side) {
        if (i < NONE || side != 0 && side != 1) {
            return OUTSIDE;
        }
        int fewest = fewestToMend();
        if (i == NONE) {
            return fewest;
        }
        if (i >= fewest) {
            return NONE;
        }
        List<Integer> lying = state.lying;
        for (int step = 0;; step++) {
            int least = 0;
            while (lying.get(least) == least || keeperKind(least).equals("watcher")) {
                least++;
            }
            int other = lying.indexOf(least);
            if (step == i) {
                return side == 0 ? Math.min(least, other) : Math.max(least, other);
            }
            lying = changed(lying, least, other);
        }
    }

    int show(int one) {
        if (noOne(one)) {
            return UNKNOWN;
        }
        int sum = 0;
        for (int p = 0; p < things.size(); p++) {
            sum += things.get(p).keeper == one && works(state.lying.get(p), p, things.get(p).word) ? 1 : 0;
        }
        return sum;
    }

    /** The best row from a night on: most charms, fewest changes, the first; a change is 10 a + b, none is -1. */
    private Outcome best(int night, List<Integer> lying, Map<List<Integer>, Outcome> memo) {
        if (night == nights.size()) {
            int charms = 0;
            for (int p = 0; p < things.size(); p++) {
                charms += keeperKind(p).equals("host") && !things.get(lying.get(p)).kind.equals("dull") ? 1 : 0;
            }
            return new Outcome(charms, 0, List.of());
        }
        List<Integer> key = new ArrayList<>(lying);
        key.add(night);
        if (memo.containsKey(key)) {
            return memo.get(key);
        }
        Outcome best = with(-1, best(night + 1, lying, memo));
        for (int a = 0; a < things.size(); a++) {
            for (int b = a + 1; b < things.size(); b++) {
                if (allowed(night, a, b)) {
                    Outcome o = with(10 * a + b, best(night + 1, changed(lying, a, b), memo));
                    if (o.charms > best.charms || o.charms == best.charms && o.changes < best.changes) {
                        best = o;
                    }
                }
            }
        }
        memo.put(key, best);
        return best;
    }

    private static Outcome with(int change, Outcome rest) {
        List<Integer> row = new ArrayList<>(List.of(change));
        row.addAll(rest.row);
        return new Outcome(rest.charms, rest.changes + (change < 0 ? 0 : 1), row);
    }

    int plan(int what) {
        if (what != 0 && what != 1) {
            return OUTSIDE;
        }
        Outcome best = best(state.passed, state.lying, new HashMap<>());
        return what == 0 ? best.charms : best.changes;
    }

    int planned(int night, int side) {
        if (noNight(night) || night < state.passed) {
            return UNKNOWN;
        }
        if (side != 0 && side != 1) {
            return OUTSIDE;
        }
        int change = best(state.passed, state.lying, new HashMap<>()).row.get(night - state.passed);
        return change < 0 ? NONE : side == 0 ? change / 10 : change % 10;
    }

    // ---- what was seen

    int seen(int place, int word, int worked) {
        if (noThing(place)) {
            return UNKNOWN;
        }
        if (word < 0 || word > 3 || worked < 0 || worked > 1) {
            return OUTSIDE;
        }
        if (sights.size() == 10) {
            return FULL;
        }
        sights.add(new Sight(place, word, worked));
        return sights.size();
    }

    int forget() {
        int were = sights.size();
        sights.clear();
        return were;
    }

    private List<List<Integer>> arrangements() {
        List<List<Integer>> rows = new ArrayList<>(List.of(List.of()));
        for (int p = 0; p < things.size(); p++) {
            List<List<Integer>> longer = new ArrayList<>();
            for (List<Integer> row : rows) {
                for (int t = 0; t < things.size(); t++) {
                    if (!row.contains(t) && things.get(t).look == things.get(p).look) {
                        List<Integer> more = new ArrayList<>(row);
                        more.add(t);
                        longer.add(more);
                    }
                }
            }
            rows = longer;
        }
        return rows;
    }

    private boolean fits(List<Integer> row) {
        for (Sight s : sights) {
            if (works(row.get(s.place), s.place, s.word) != (s.worked == 1)) {
                return false;
            }
        }
        return true;
    }

    private List<List<Integer>> fitting() {
        List<List<Integer>> rows = arrangements();
        rows.removeIf(row -> !fits(row));
        return rows;
    }

    int fit() {
        return fitting().size();
    }

    int lies(int place) {
        if (noThing(place)) {
            return UNKNOWN;
        }
        int bits = 0;
        for (List<Integer> row : fitting()) {
            bits |= 1 << row.get(place);
        }
        return bits;
    }

    int sure() {
        int bits = 0;
        for (int p = 0; p < things.size(); p++) {
            bits += Integer.bitCount(lies(p)) == 1 ? 1 << p : 0;
        }
        return bits;
    }

    int odds(int place, int part) {
        if (noThing(place)) {
            return UNKNOWN;
        }
        if (part != 0 && part != 1) {
            return OUTSIDE;
        }
        int all = 0;
        int with = 0;
        for (List<Integer> row : fitting()) {
            all++;
            with += things.get(row.get(place)).kind.equals("dull") ? 0 : 1;
        }
        if (all == 0) {
            return NOT;
        }
        for (int d = all; d > 1; d--) {
            if (all % d == 0 && with % d == 0) {
                all /= d;
                with /= d;
            }
        }
        return part == 0 ? with : all;
    }

    int next(int what) {
        if (what < 0 || what > 2) {
            return OUTSIDE;
        }
        List<List<Integer>> rows = fitting();
        if (rows.isEmpty() || things.isEmpty()) {
            return NONE;
        }
        int[] best = {0, 0, Integer.MAX_VALUE};
        for (int p = 0; p < things.size(); p++) {
            for (int w = 0; w < 4; w++) {
                int yes = 0;
                int no = 0;
                for (List<Integer> row : rows) {
                    if (works(row.get(p), p, w)) {
                        yes++;
                    } else {
                        no++;
                    }
                }
                if (Math.max(yes, no) < best[2]) {
                    best = new int[] {p, w, Math.max(yes, no)};
                }
            }
        }
        return best[what];
    }

    private boolean tellsApart(List<List<Integer>> rows, List<Integer> pairs) {
        Set<Integer> answers = new HashSet<>();
        for (List<Integer> row : rows) {
            int answer = 0;
            for (int pair : pairs) {
                answer = 2 * answer + (works(row.get(pair / 4), pair / 4, pair % 4) ? 1 : 0);
            }
            if (!answers.add(answer)) {
                return false;
            }
        }
        return true;
    }

    private List<Integer> firstSet(List<List<Integer>> rows, List<Integer> pairs, int size) {
        if (pairs.size() == size) {
            return tellsApart(rows, pairs) ? pairs : null;
        }
        int from = pairs.isEmpty() ? 0 : pairs.get(pairs.size() - 1) + 1;
        for (int pair = from; pair < 4 * things.size(); pair++) {
            List<Integer> more = new ArrayList<>(pairs);
            more.add(pair);
            List<Integer> found = firstSet(rows, more, size);
            if (found != null) {
                return found;
            }
        }
        return null;
    }

    int apart(int i) {
        if (i < NONE) {
            return OUTSIDE;
        }
        List<List<Integer>> rows = fitting();
        for (int size = 0; size <= 4; size++) {
            List<Integer> set = firstSet(rows, List.of(), size);
            if (set != null) {
                return i == NONE ? size : i < size ? set.get(i) : NONE;
            }
        }
        return NONE;
    }

    int came(int what) {
        if (what != 0 && what != 1) {
            return OUTSIDE;
        }
        List<Integer> home = new ArrayList<>();
        for (int i = 0; i < things.size(); i++) {
            home.add(i);
        }
        Map<List<Integer>, Integer> reached = new HashMap<>(Map.of(home, 0));
        for (int night = 0; night < state.passed; night++) {
            Map<List<Integer>, Integer> further = new HashMap<>(reached);
            for (Map.Entry<List<Integer>, Integer> from : reached.entrySet()) {
                for (int a = 0; a < things.size(); a++) {
                    for (int b = a + 1; b < things.size(); b++) {
                        if (allowed(night, a, b)) {
                            further.merge(changed(from.getKey(), a, b), from.getValue() + 1, Math::min);
                        }
                    }
                }
            }
            reached = further;
        }
        reached.keySet().removeIf(row -> !fits(row));
        if (reached.isEmpty()) {
            return NONE;
        }
        return what == 0 ? reached.values().stream().mapToInt(v -> v).min().getAsInt() : reached.size();
    }

    int count(int what) {
        int bits = 0;
        switch (what) {
            case 0: return people.size();
            case 1: return things.size();
            case 2: return nights.size();
            case 3: return state.passed;
            case 4: return state.changes;
            case 5:
                for (int one : state.known) {
                    bits |= 1 << one;
                }
                return bits;
            case 6:
                for (int p = 0; p < things.size(); p++) {
                    bits |= state.lying.get(p) == p ? 1 << p : 0;
                }
                return bits;
            case 7: return arrangements().size();
            case 8: return sights.size();
            case 9: return text.length();
            default: return OUTSIDE;
        }
    }
}
