import java.util.Random;

/**
 * What is refused answers as told and changes nothing: of two objects one gets all calls, the other
 * one only those that were not refused; they are the same then, behind acts undone and images, too.
 */
public final class TwinTest {
    private static final int NONE = PrintsGoOn.NONE;
    private static final int[] EDGES = {
        Integer.MIN_VALUE, -2, -1, 0, 1, 2, 3, 4, 5, 6, 9, 10, 19, 20, 29, 30, 31, 50, 51, 99, 100, 240, 241, 999, 1000,
        Integer.MAX_VALUE
    };

    private static final Checks CHECKS = new Checks("TwinTest");

    private final Random random;
    private final Texts texts;
    private final PrintsGoOn one = new PrintsGoOn();
    private final PrintsGoOn other = new PrintsGoOn();
    private final int[] v = new int[5];
    private int refused;

    private TwinTest(int seed) {
        random = new Random(seed);
        texts = new Texts(random);
    }

    public static void main(String[] args) {
        int refused = 0;
        for (int seed = 0; seed < 300; seed++) {
            refused += new TwinTest(seed).play(seed);
        }
        CHECKS.due("many calls were refused", refused > 10000, true);
        CHECKS.end();
    }

    private int play(int seed) {
        for (int i = 0; i < 200; i++) {
            if (i % 60 == 0) {
                tell();
            } else {
                call(random.nextInt(20));
            }
        }
        alike("session " + seed);
        for (int i = 0; i < 41; i++) {
            CHECKS.due("session " + seed + ": undo()", one.undo(), other.undo());
            alike("session " + seed + " behind " + (i + 1) + " undone");
        }
        CHECKS.due("session " + seed + ": back()", one.back(), other.back());
        alike("session " + seed + ", back");
        return refused;
    }

    private void alike(String when) {
        CHECKS.due("alike in " + when, State.of(one).equals(State.of(other)), true);
    }

    private void tell() {
        String shore = texts.shore();
        String law = texts.law().text();
        String evening = texts.evening();
        for (PrintsGoOn prints : new PrintsGoOn[] {one, other}) {
            Checks.tell(prints, 0, shore);
            Checks.tell(prints, 1, law);
            Checks.tell(prints, 2, evening);
            prints.end(0);
        }
    }

    private void call(int method) {
        for (int i = 0; i < v.length; i++) {
            v[i] = random.nextInt(3) > 0 ? random.nextInt(7) - 1 : EDGES[random.nextInt(EDGES.length)];
        }
        if (method >= 14) {
            ask(method);
        } else if (done(one, method)) {
            CHECKS.due("call " + method + " is not refused again", done(other, method), true);
        } else {
            refused++;
        }
    }

    private boolean done(PrintsGoOn prints, int method) {
        return switch (method) {
            case 0 -> prints.feed(v[0], v[1], v[2], v[3], v[4]) != NONE;
            case 1 -> prints.end(v[0]);
            case 2 -> prints.text(v[0]) != NONE;
            case 3 -> prints.law(v[0]);
            case 4 -> prints.children(v[0]);
            case 5 -> prints.hour() != NONE;
            case 6 -> prints.tide(v[0]) != NONE;
            case 7 -> prints.stone(v[0]) != NONE;
            case 8 -> prints.sweep(v[0]) != NONE;
            case 9 -> prints.anew(v[0], v[1]) != NONE;
            case 10 -> prints.give(v[0]) != NONE;
            case 11 -> prints.years(v[0], v[1]) != NONE;
            case 12 -> prints.seen(v[0], v[1], v[2]) != NONE;
            default -> rare(prints);
        };
    }

    private boolean rare(PrintsGoOn prints) {
        return switch (v[0] & 3) {
            case 0 -> prints.undo() != NONE;
            case 1 -> prints.perform(v[1]) > 0;
            case 2 -> prints.image() != NONE;
            default -> v[1] > 2 && prints.back() != NONE;
        };
    }

    /** What asks changes nothing, refused or not: the other one is not asked. */
    private void ask(int method) {
        switch (method) {
            case 14 -> one.run(v[0], v[1]);
            case 15 -> one.stones(v[0], v[1], v[2], v[3]);
            case 16 -> one.game(v[0], v[1], v[2], v[3], v[4]);
            case 17 -> one.rests(v[0], v[1], v[2]);
            case 18 -> one.odds(v[0], v[1], v[2], v[3]);
            default -> {
                one.where(v[0], v[1]);
                one.meet(v[0], v[1]);
                one.ends(v[0], v[1]);
                one.again(v[0]);
                one.fits(v[0], v[1]);
                one.ask(v[0]);
                one.ahead(v[0]);
                one.fault(v[0]);
                one.way(v[0], v[1]);
            }
        }
    }
}
