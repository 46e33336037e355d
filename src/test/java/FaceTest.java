import java.io.IOException;
import java.lang.reflect.Constructor;
import java.lang.reflect.Field;
import java.lang.reflect.Method;
import java.lang.reflect.Modifier;
import java.nio.file.Files;
import java.nio.file.Path;
import java.util.Arrays;
import java.util.Random;
import java.util.Set;
import java.util.TreeSet;
import java.util.regex.Matcher;
import java.util.regex.Pattern;
import java.util.stream.Collectors;

/** The public face as the document has it, and no call that throws. */
public final class FaceTest {
    private static final String[] FACE = {
        "write 1", "erase 0", "fault 0", "inn 0", "one 2", "as 2", "thing 2", "thingAs 2", "place 2",
        "may 3", "pass 2", "say 2", "keep 1", "back 1", "rings 0", "mend 2", "show 1", "plan 1", "planned 2",
        "seen 3", "forget 0", "fit 0", "lies 1", "sure 0", "odds 2", "next 1", "apart 1", "came 1", "count 1",
    };

    public static void main(String[] args) throws Exception {
        constants();
        members();
        documentsFace();
        anyCalls();
        Due.end();
    }

    private static void constants() {
        Due.due("NONE", InnChanged.NONE, -1);
        Due.due("UNKNOWN", InnChanged.UNKNOWN, -2);
        Due.due("OUTSIDE", InnChanged.OUTSIDE, -3);
        Due.due("NOT", InnChanged.NOT, -4);
        Due.due("FULL", InnChanged.FULL, -5);
    }

    private static void members() {
        Class<?> c = InnChanged.class;
        Due.due("public and final", c.getModifiers(), Modifier.PUBLIC | Modifier.FINAL);
        Set<String> want = new TreeSet<>(Arrays.asList(FACE));
        Set<String> got = new TreeSet<>();
        Set<String> names = new TreeSet<>();
        for (Method m : c.getDeclaredMethods()) {
            if (Modifier.isPublic(m.getModifiers())) {
                got.add(m.getName() + " " + m.getParameterCount());
                names.add(m.getName());
                Due.due(m + " is not static", m.getModifiers(), Modifier.PUBLIC);
            } else {
                Due.due(m + " is private", Modifier.isPrivate(m.getModifiers()) ? 1 : 0, 1);
            }
        }
        Due.due("the face is " + got, got.equals(want) ? 1 : 0, 1);
        for (Class<?> inside : c.getDeclaredClasses()) {
            for (Method m : inside.getDeclaredMethods()) {
                Due.due(m + " bears a name of the face", names.contains(m.getName()) ? 1 : 0, 0);
            }
        }
        for (Method m : c.getDeclaredMethods()) {
            boolean clash = Modifier.isPrivate(m.getModifiers()) && names.contains(m.getName());
            Due.due(m + " bears a name of the face", clash ? 1 : 0, 0);
        }
        Set<String> constants = new TreeSet<>(Arrays.asList("NONE", "UNKNOWN", "OUTSIDE", "NOT", "FULL"));
        for (Field f : c.getDeclaredFields()) {
            boolean shown = !Modifier.isPrivate(f.getModifiers());
            Due.due(f + " is as the face has it", shown == constants.contains(f.getName()) ? 1 : 0, 1);
        }
        for (Constructor<?> k : c.getDeclaredConstructors()) {
            Due.due(k + " is public", k.getModifiers(), Modifier.PUBLIC);
            Due.due(k + " takes nothing", k.getParameterCount(), 0);
        }
    }

    /** The document's own lines, so that a name, a number of numbers, a type that differs is found. */
    private static void documentsFace() throws IOException {
        String doc = Files.readString(Path.of("../shared/DOC.md"));
        Set<String> told = new TreeSet<>();
        Matcher m = Pattern.compile("(?m)^    public (int \\w+\\([^)]*\\));$").matcher(doc);
        while (m.find()) {
            told.add(m.group(1).replaceAll("(int) \\w+([,)])", "$1$2"));
        }
        Set<String> has = new TreeSet<>();
        for (Method call : InnChanged.class.getDeclaredMethods()) {
            if (Modifier.isPublic(call.getModifiers())) {
                has.add(call.getReturnType() + " " + call.getName() + "("
                        + Arrays.stream(call.getParameterTypes()).map(Class::getName).collect(Collectors.joining(", "))
                        + ")");
            }
        }
        Due.due("the document tells all calls", told.size(), FACE.length);
        Due.due("the document has " + told + ", the class " + has, told.equals(has) ? 1 : 0, 1);
    }

    /** Any numbers in any state: it answers, and nothing is thrown (a thrown one ends this test with 1). */
    private static void anyCalls() throws Exception {
        Random random = new Random(7);
        Method[] calls = InnChanged.class.getMethods();
        Arrays.sort(calls, (a, b) -> a.toString().compareTo(b.toString()));
        String[] texts = {
            "inn", "host;guest;watcher;lender;host", "inn;guest", "true 0 0 0", "fading 0 0 1 1", "moody 0 0 0",
            "inn;host;guest;dull 0 0;true 0 1 0;true 0 1 1;fading 0 1 1 2;moody 0 1 3;dull 0 0;night 2;night 3",
            "night 0;night 0;night 0", "inn;night 0", "power 0 9", "x", "host;;",
        };
        for (int run = 0; run < 400; run++) {
            InnChanged x = new InnChanged();
            // one more text and the last count stay below the 512 calls that are promised
            for (int made = 0; made < 380; made++) {
                if (random.nextInt(40) == 0) {
                    String text = texts[random.nextInt(texts.length)];
                    x.erase();
                    Due.write(x, text);
                    x.inn();
                    made += text.length() + 2;
                }
                anyCall(x, calls[random.nextInt(calls.length)], random);
            }
            Due.due("passed at most all", x.count(3) <= x.count(2) ? 1 : 0, 1);
        }
    }

    private static void anyCall(InnChanged x, Method call, Random random) throws Exception {
        if (call.getDeclaringClass() != InnChanged.class) {
            return;
        }
        int[] far = {Integer.MIN_VALUE, Integer.MAX_VALUE, -1, -2, 6, 7, 160, 1 << 30};
        Object[] numbers = new Object[call.getParameterCount()];
        for (int k = 0; k < numbers.length; k++) {
            numbers[k] = random.nextInt(5) == 0 ? far[random.nextInt(far.length)] : random.nextInt(6);
        }
        Object answer = call.invoke(x, numbers);
        Due.due(call + " answers a number", answer instanceof Integer ? 1 : 0, 1);
    }
}
