import java.util.ArrayList;
import java.util.List;
import java.util.function.Supplier;
import java.util.function.ToIntFunction;

/** Calls that must change nothing: one of two equal objects is asked, and then both must tell the same of all. */
final class Twins {
    private Twins() {
    }

    /** The call, refused or not, answers that; behind it all is as on a twin that was not asked. */
    static void still(String name, Supplier<InnChanged> maker, ToIntFunction<InnChanged> call, int want) {
        InnChanged asked = maker.get();
        Due.due(name, call.applyAsInt(asked), want);
        same(name + ", nothing changes", asked, maker.get());
    }

    /** Both tell the same of all; they are used up by it, for what is kept and the text come last. */
    static void same(String name, InnChanged a, InnChanged b) {
        List<String> ofA = allOf(a);
        List<String> ofB = allOf(b);
        String differ = "";
        for (int i = 0; i < Math.min(ofA.size(), ofB.size()) && differ.isEmpty(); i++) {
            if (!ofA.get(i).equals(ofB.get(i))) {
                differ = ": " + ofA.get(i) + " but the twin's " + ofB.get(i);
            }
        }
        Due.due(name + differ, ofA.equals(ofB) ? 1 : 0, 1);
    }

    /** Some 220 calls, so that 290 are left for making the object (512 are promised). */
    private static List<String> allOf(InnChanged x) {
        List<String> all = new ArrayList<>();
        addTold(all, x);
        add(all, "fit()", x.fit());
        add(all, "sure()", x.sure());
        for (int p = 0; p < 6; p++) {
            add(all, "lies " + p, x.lies(p));
        }
        for (int k = 0; k < 2; k++) {
            add(all, "back " + k, x.back(k));
            addNow(all, x);
        }
        add(all, "fault()", x.fault());
        add(all, "inn()", x.inn());
        addTold(all, x);
        return all;
    }

    private static void addTold(List<String> all, InnChanged x) {
        for (int what = 0; what < 10; what++) {
            add(all, "count " + what, x.count(what));
        }
        for (int one = 0; one < 5; one++) {
            for (int what = 0; what < 4; what++) {
                add(all, "one " + one + " " + what, x.one(one, what));
            }
        }
        for (int t = 0; t < 6; t++) {
            for (int what = 0; what < 6; what++) {
                add(all, "thing " + t + " " + what, x.thing(t, what));
            }
            add(all, "place " + t + " 0", x.place(t, 0));
            add(all, "place " + t + " 2", x.place(t, 2));
        }
    }

    private static void addNow(List<String> all, InnChanged x) {
        for (int what = 3; what < 6; what++) {
            add(all, "count " + what, x.count(what));
        }
        for (int t = 0; t < 6; t++) {
            for (int what = 3; what < 6; what++) {
                add(all, "thing " + t + " " + what, x.thing(t, what));
            }
            add(all, "place " + t + " 2", x.place(t, 2));
        }
    }

    private static void add(List<String> all, String call, int answer) {
        all.add(call + " = " + answer);
    }

    /**
     * One to whom all has happened: a night passed with a change, a charm wore, the guest knows, two states are
     * kept, two things were seen, a text is begun. It is ahead of night 1 of 3, in which the guest sleeps there.
     */
    static InnChanged busy() {
        InnChanged x = busyWithoutText();
        Due.write(x, "gue");
        return x;
    }

    static InnChanged busyWithoutText() {
        InnChanged x = Due.told("host;guest;watcher;lender;fading 0 1 0 5;dull 0 0;moody 1 3 2;true 1 0 3;"
                + "night 10;night 2;night 8");
        Due.due("keep", x.keep(0), 0);
        Due.due("it works", x.say(0, 0), 1);
        Due.due("a change", x.pass(0, 1), 1);
        Due.due("the dull one", x.say(0, 0), 0);
        Due.due("keep", x.keep(1), 1);
        Due.due("with the host it works, too", x.say(1, 0), 1);
        Due.due("seen", x.seen(0, 0, 0), 1);
        Due.due("seen", x.seen(1, 0, 1), 2);
        return x;
    }

    /** The same behind its last night. */
    static InnChanged late() {
        InnChanged x = busyWithoutText();
        x.pass(InnChanged.NONE, InnChanged.NONE);
        Due.due("the last night", x.pass(InnChanged.NONE, InnChanged.NONE), 3);
        return x;
    }
}
