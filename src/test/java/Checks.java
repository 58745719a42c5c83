import java.nio.charset.StandardCharsets;

/** What the tests share: comparing answers, and bringing texts onto the tape. */
final class Checks {
    private final String name;
    private int asked;
    private int wrong;

    Checks(String name) {
        this.name = name;
    }

    void due(String what, long got, long want) {
        asked++;
        if (got != want) {
            wrong++;
            if (wrong <= 20) {
                System.out.println(name + ": " + what + " answered " + got + ", due is " + want);
            }
        }
    }

    void due(String what, boolean got, boolean want) {
        due(what, got ? 1 : 0, want ? 1 : 0);
    }

    /** Ends the test, with exit code 1 if an answer was wrong. */
    void end() {
        System.out.println(name + ": " + asked + " answers, " + wrong + " wrong");
        if (wrong != 0 || asked == 0) {
            System.exit(1);
        }
    }

    /** The tape holds this text alone then. */
    static void type(PrintsGoOn prints, String text) {
        prints.end(0);
        byte[] bytes = text.getBytes(StandardCharsets.ISO_8859_1);
        for (int i = 0; i < bytes.length; i += 20) {
            prints.feed(four(bytes, i), four(bytes, i + 4), four(bytes, i + 8), four(bytes, i + 12),
                    four(bytes, i + 16));
        }
    }

    private static int four(byte[] bytes, int from) {
        int number = 0;
        for (int i = from; i < from + 4; i++) {
            number = number << 8 | (i < bytes.length ? bytes[i] & 255 : 0);
        }
        return number;
    }

    static int tell(PrintsGoOn prints, int sort, String text) {
        type(prints, text);
        return prints.text(sort);
    }

    static int faultOf(PrintsGoOn prints, int sort, String text) {
        type(prints, text);
        return prints.fault(sort);
    }

    static PrintsGoOn shore(String text) {
        PrintsGoOn prints = new PrintsGoOn();
        if (tell(prints, 0, text) == PrintsGoOn.NONE) {
            throw new IllegalArgumentException("a test's shore has a fault: " + text);
        }
        return prints;
    }

    /** A shore on which a law holds. */
    static PrintsGoOn shore(String text, String law) {
        PrintsGoOn prints = shore(text);
        int number = tell(prints, 1, law);
        if (number == PrintsGoOn.NONE || !prints.law(number)) {
            throw new IllegalArgumentException("a test's law has a fault: " + law);
        }
        return prints;
    }
}
