import java.util.Random;

/** Long runs of calls, right and wrong ones, each answer held against the slow model's. The seeds are fixed. */
public final class ModelTest {
    private static final int RUNS = 700, CALLS = 340;
    private static final String[] PEOPLE = {"guest", "watcher", "lender", "host"};
    private static final String[] THINGS = {"dull", "true", "fading", "moody"};

    private final Random random;
    private final int run;
    private final InnChanged x = new InnChanged();
    private final Model m = new Model();

    private ModelTest(int run) {
        this.run = run;
        random = new Random(1000L + run);
    }

    public static void main(String[] args) {
        for (int run = 0; run < RUNS; run++) {
            new ModelTest(run).go();
        }
        Due.end();
    }

    private void due(String call, int got, int want) {
        Due.due("run " + run + ": " + call, got, want);
    }

    private void go() {
        int calls = tell(inn());
        while (calls < CALLS) {
            int dice = random.nextInt(100);
            if (dice < 4) {
                calls += tell(random.nextBoolean() ? inn() : more());
            } else if (dice < 7) {
                calls += tell(spoilt(random.nextBoolean() ? inn() : more()));
            } else {
                calls++;
                call(random.nextInt(33));
            }
        }
    }

    // ---- texts

    private String inn() {
        StringBuilder text = new StringBuilder("inn");
        int people = 1 + random.nextInt(5);
        for (int i = 0; i < people; i++) {
            text.append(';').append(random.nextInt(3) == 0 ? "host" : PEOPLE[random.nextInt(4)]);
        }
        int things = random.nextInt(7);
        int looks = 1 + random.nextInt(3);
        for (int i = 0; i < things; i++) {
            text.append(';').append(thing(random.nextInt(looks), people));
        }
        // fourteen lines at most, so not all nights come with many people and things
        int nights = Math.min(random.nextInt(7), 13 - people - things);
        for (int i = 0; i < nights; i++) {
            text.append(";night ").append(random.nextInt(1 << people));
        }
        return text.toString();
    }

    private String thing(int look, int people) {
        String kind = THINGS[random.nextInt(4)];
        String line = kind + " " + look + " " + random.nextInt(people);
        if (kind.equals("dull")) {
            return line;
        }
        line += " " + random.nextInt(4);
        return kind.equals("fading") ? line + " " + random.nextInt(3) : line;
    }

    private String more() {
        StringBuilder text = new StringBuilder();
        int lines = 1 + random.nextInt(4);
        int people = m.count(0);
        for (int i = 0; i < lines; i++) {
            if (i > 0) {
                text.append(random.nextInt(4) == 0 ? " ; " : ";");
            }
            switch (random.nextInt(4)) {
                case 0: text.append(PEOPLE[random.nextInt(4)]); break;
                case 1: text.append(thing(random.nextInt(3), Math.max(people, 1))); break;
                case 2: text.append("night  ").append(random.nextInt(1 << people)); break;
                default: text.append("power ").append(random.nextInt(6)).append(' ').append(random.nextInt(10)); break;
            }
        }
        return text.toString();
    }

    private String spoilt(String text) {
        StringBuilder s = new StringBuilder(text);
        String signs = "; 0123456789aeghinostuw.A\t" + (char) 0 + (char) 255;
        int times = 1 + random.nextInt(2);
        for (int i = 0; i < times && s.length() > 0; i++) {
            int at = random.nextInt(s.length());
            char sign = signs.charAt(random.nextInt(signs.length()));
            switch (random.nextInt(4)) {
                case 0: s.setCharAt(at, sign); break;
                case 1: s.insert(at, sign); break;
                case 2: s.deleteCharAt(at); break;
                default: s.setLength(at); break;
            }
        }
        return s.toString();
    }

    /** Writes a text and has it done; answers how many calls that were. */
    private int tell(String text) {
        for (int i = 0; i < text.length(); i++) {
            int c = text.charAt(i);
            due("write(" + c + ")", x.write(c), m.write(c));
        }
        due("fault() of '" + text + "'", x.fault(), m.fault());
        due("inn() of '" + text + "'", x.inn(), m.inn());
        due("erase()", x.erase(), m.erase());
        return text.length() + 3;
    }

    // ---- calls

    /** Mostly one that there is, at times one beside it or far away. */
    private int some(int bound) {
        int dice = random.nextInt(40);
        if (dice == 0) {
            return -1 - random.nextInt(2);
        }
        if (dice == 1) {
            return bound + random.nextInt(2);
        }
        if (dice == 2) {
            return random.nextInt();
        }
        return random.nextInt(Math.max(bound, 1));
    }

    private int place() {
        return some(m.count(1));
    }

    private void call(int which) {
        if (which < 10) {
            askTold(which);
        } else if (which < 18) {
            doNights(which);
        } else if (which < 23) {
            askForetold(which);
        } else {
            askSeen(which);
        }
    }

    private void askTold(int which) {
        int one = some(m.count(0));
        int p = place();
        int what = some(5);
        String with = "(" + one + "|" + p + ", " + what + ")";
        switch (which) {
            case 0: due("one" + with, x.one(one, what), m.one(one, what)); break;
            case 1: due("as" + with, x.as(one, what), m.as(one, what)); break;
            case 2: due("thing" + with, x.thing(p, what), m.thing(p, what)); break;
            case 3: due("thing(" + p + ", 5)", x.thing(p, 5), m.thing(p, 5)); break;
            case 4: due("thingAs" + with, x.thingAs(p, what), m.thingAs(p, what)); break;
            case 5: due("thingAs(" + p + ", 5)", x.thingAs(p, 5), m.thingAs(p, 5)); break;
            case 6: due("place" + with, x.place(p, what), m.place(p, what)); break;
            case 7: due("fault()", x.fault(), m.fault()); break;
            default:
                int count = some(10);
                due("count(" + count + ")", x.count(count), m.count(count));
                break;
        }
    }

    private void doNights(int which) {
        int a = place();
        int b = place();
        int word = some(4);
        int k = some(2);
        switch (which) {
            case 10:
                int night = some(m.count(2));
                due("may(" + night + ", " + a + ", " + b + ")", x.may(night, a, b), m.may(night, a, b));
                break;
            case 11: passAsMayBe(); break;
            case 12: due("pass(" + a + ", " + b + ")", x.pass(a, b), m.pass(a, b)); break;
            case 13: due("pass(-1, -1)", x.pass(-1, -1), m.pass(-1, -1)); break;
            case 14: due("say(" + a + ", " + word + ")", x.say(a, word), m.say(a, word)); break;
            case 15:
                int fitting = m.thing(m.place(a, 1), 2);
                due("say(" + a + ", " + fitting + ")", x.say(a, fitting), m.say(a, fitting));
                break;
            case 16: due("keep(" + k + ")", x.keep(k), m.keep(k)); break;
            default: due("back(" + k + ")", x.back(k), m.back(k)); break;
        }
    }

    private void passAsMayBe() {
        int night = m.count(3);
        for (int tries = 0; tries < 20; tries++) {
            int a = place();
            int b = place();
            if (m.may(night, a, b) == 1) {
                due("pass(" + a + ", " + b + ")", x.pass(a, b), m.pass(a, b));
                return;
            }
        }
    }

    private void askForetold(int which) {
        int i = random.nextInt(8) - 2;
        int side = some(2);
        int one = some(m.count(0));
        int night = random.nextInt(3) == 0 ? some(6) : m.count(3) + random.nextInt(3);
        switch (which) {
            case 18: due("rings()", x.rings(), m.rings()); break;
            case 19: due("mend(" + i + ", " + side + ")", x.mend(i, side), m.mend(i, side)); break;
            case 20: due("show(" + one + ")", x.show(one), m.show(one)); break;
            case 21: due("plan(" + side + ")", x.plan(side), m.plan(side)); break;
            default: due("planned(" + night + ", " + side + ")", x.planned(night, side), m.planned(night, side)); break;
        }
    }

    private void askSeen(int which) {
        int p = place();
        int two = some(2);
        int three = some(3);
        switch (which) {
            case 23: see(p, some(4), two); break;
            case 24: seeWhatIs(p); break;
            case 25: due("fit()", x.fit(), m.fit()); break;
            case 26: due("lies(" + p + ")", x.lies(p), m.lies(p)); break;
            case 27: due("sure()", x.sure(), m.sure()); break;
            case 28: due("odds(" + p + ", " + two + ")", x.odds(p, two), m.odds(p, two)); break;
            case 29: due("next(" + three + ")", x.next(three), m.next(three)); break;
            case 30: askApart(); break;
            case 31: due("came(" + two + ")", x.came(two), m.came(two)); break;
            default:
                if (random.nextInt(4) == 0) {
                    due("forget()", x.forget(), m.forget());
                }
                break;
        }
    }

    private void see(int p, int word, int worked) {
        due("seen(" + p + ", " + word + ", " + worked + ")", x.seen(p, word, worked), m.seen(p, word, worked));
    }

    /** What is true now, so that some arrangement fits. */
    private void seeWhatIs(int p) {
        int thing = m.place(p, 1);
        if (thing >= 0) {
            see(p, m.thing(thing, 2), m.thingAs(thing, 0));
        }
    }

    private void askApart() {
        for (int i = -2; i < 5; i++) {
            due("apart(" + i + ")", x.apart(i), m.apart(i));
        }
    }
}
