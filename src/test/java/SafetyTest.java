import java.util.NoSuchElementException;
import java.util.Random;

/** Any arguments in any state: nothing is thrown but by goer, and what is refused changes nothing. */
public final class SafetyTest {
    private static final Checks CHECKS = new Checks("SafetyTest");
    private static final int[] EDGES = {
        Integer.MIN_VALUE, Integer.MIN_VALUE + 1, -1000000, -2, -1, 0, 1, 2, 3, 4, 5, 6, 9, 10, 15, 16, 29, 30, 31, 40,
        59, 60, 99, 100, 240, 241, 999, 1000, 9999, 10000, Integer.MAX_VALUE - 1, Integer.MAX_VALUE
    };

    public static void main(String[] args) {
        for (int seed = 0; seed < 400; seed++) {
            play(new Random(seed));
        }
        CHECKS.end();
    }

    private static void play(Random random) {
        Texts texts = new Texts(random);
        PrintsGoOn prints = new PrintsGoOn();
        if (random.nextInt(5) != 0) {
            Checks.tell(prints, 0, texts.shore());
            Checks.tell(prints, 2, texts.evening());
            prints.law(Checks.tell(prints, 1, texts.law().text()));
        }
        for (int i = 0; i < 450; i++) {
            int method = random.nextInt(38);
            String before = method == 5 || method >= 16 ? state(prints) : "";
            boolean threw = call(prints, random, method);
            CHECKS.due("method " + method + " threw", threw && method != 5, false);
            boolean asks = method == 5 || method >= 17;
            if (asks) {
                CHECKS.due("method " + method + " changed nothing", state(prints).equals(before), true);
            }
        }
    }

    private static String state(PrintsGoOn prints) {
        StringBuilder text = new StringBuilder();
        for (int what = 0; what < 14; what++) {
            text.append(prints.count(what)).append(' ');
        }
        for (int cell = 0; cell < prints.count(0); cell++) {
            text.append(prints.shore(cell, 0));
        }
        for (int goer = 0; goer < prints.count(1); goer++) {
            for (int what = 0; what < 5; what++) {
                text.append(' ').append(prints.goer(goer, what));
            }
        }
        return text.append(' ').append(prints.log(0, 1)).toString();
    }

    private static int any(Random random) {
        return random.nextInt(3) == 0 ? random.nextInt(8) - 1 : EDGES[random.nextInt(EDGES.length)];
    }

    private static boolean call(PrintsGoOn prints, Random random, int method) {
        int a = any(random);
        int b = any(random);
        int c = any(random);
        int d = any(random);
        int e = any(random);
        try {
            if (method < 17) {
                change(prints, random, method, new int[] {a, b, c, d, e});
            } else {
                ask(prints, method, new int[] {a, b, c, d, e});
            }
            return false;
        } catch (NoSuchElementException refused) {
            return true;
        } catch (RuntimeException machine) {
            CHECKS.due("method " + method + " of " + a + ", " + b + ", " + c + ", " + d + ", " + e + ": " + machine, 1, 0);
            return true;
        }
    }

    private static void change(PrintsGoOn prints, Random random, int method, int[] v) {
        switch (method) {
            case 0 -> prints.feed(random.nextInt(), v[1], random.nextInt(), v[3], v[4]);
            case 1 -> prints.end(v[0]);
            case 2 -> prints.fault(v[0]);
            case 3 -> prints.text(v[0]);
            case 4 -> prints.years(v[0], random.nextLong());
            case 5 -> prints.goer(v[0], v[1]);
            case 6 -> prints.law(v[0]);
            case 7 -> prints.children(v[0]);
            case 8 -> prints.hour();
            case 9 -> prints.tide(v[0]);
            case 10 -> prints.stone(v[0]);
            case 11 -> prints.sweep(v[0]);
            case 12 -> prints.anew(v[0], v[1]);
            case 13 -> prints.give(v[0]);
            case 14 -> prints.undo();
            case 15 -> prints.perform(v[0]);
            default -> {
                prints.seen(v[0], v[1], v[2]);
                prints.back();
            }
        }
    }

    private static void ask(PrintsGoOn prints, int method, int[] v) {
        switch (method) {
            case 17 -> prints.shore(v[0], v[1]);
            case 18 -> prints.log(v[0], v[1]);
            case 19 -> prints.step(v[0], v[1], v[2]);
            case 20 -> prints.run(v[0], v[1]);
            case 21 -> prints.where(v[0], v[1]);
            case 22 -> prints.meet(v[0], v[1]);
            case 23 -> prints.ends(v[0], v[1]);
            case 24 -> prints.again(v[0]);
            case 25 -> prints.way(v[0], v[1]);
            case 26 -> prints.stones(v[0], v[1], v[2], v[3]);
            case 27 -> prints.fits(v[0], v[1]);
            case 28 -> prints.ask(v[0]);
            case 29 -> prints.game(v[0], v[1], v[2], v[3], v[4]);
            case 30 -> prints.rests(v[0], v[1], v[2]);
            case 31 -> prints.odds(v[0], v[1], v[2], v[3]);
            case 32 -> prints.shares(v[0], v[1]);
            case 33 -> prints.ahead(v[0]);
            case 34 -> prints.all(v[0]);
            case 35 -> prints.image();
            case 36 -> prints.count(v[0]);
            default -> prints.fault(v[0]);
        }
    }
}
