/** What the tests share: answers that are due, and texts written byte by byte. */
final class Due {
    private static int wrong = 0;
    private static int asked = 0;

    private Due() {
    }

    static void due(String call, long got, long want) {
        asked++;
        if (got != want) {
            wrong++;
            if (wrong <= 200) {
                System.out.println(call + " answered " + got + ", due is " + want);
            }
        }
    }

    static void write(InnChanged x, String text) {
        for (int i = 0; i < text.length(); i++) {
            x.write(text.charAt(i));
        }
    }

    /** A new object with a text done. */
    static InnChanged told(String text) {
        InnChanged x = new InnChanged();
        tell(x, text);
        return x;
    }

    static void tell(InnChanged x, String text) {
        write(x, text);
        due("inn() of '" + text + "'", x.inn(), text.split(";", -1).length);
    }

    /** That many of a line, with ; between. */
    static String lines(String line, int times) {
        return (line + ";").repeat(times).substring(0, Math.max(0, (line.length() + 1) * times - 1));
    }

    static void end() {
        System.out.println(asked + " answers, " + wrong + " not as due");
        if (wrong != 0 || asked == 0) {
            System.exit(1);
        }
    }
}
