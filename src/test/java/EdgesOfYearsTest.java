import java.math.BigInteger;

/** What the document says of the edges of years, images and counts: Terms 4, and promises 1, 16 and 37 to 39. */
public final class EdgesOfYearsTest {
    private static final int NONE = PrintsGoOn.NONE;
    private static final int HIDDEN = PrintsGoOn.HIDDEN;
    private static final int[] OUT = {Integer.MIN_VALUE, -2, -1};
    private static final BigInteger ROUND = BigInteger.ONE.shiftLeft(64);
    private static final Edges EDGES = new Edges("EdgesOfYearsTest");

    public static void main(String[] args) {
        newObject();
        bounds();
        draws();
        children();
        firstChildren();
        childrenAndRocks();
        acts();
        images();
        noImages();
        imageOfTheLog();
        counts();
        manyCalls();
        EDGES.end();
    }

    private static void newObject() {
        EDGES.says("`PrintsGoOn()`: No SHORE.");
        PrintsGoOn prints = new PrintsGoOn();
        int[] counts = {0, 0, 0, 0, 0, NONE, 0, 0, 0, 0, 3, 0, 0, 0};
        for (int what = 0; what < counts.length; what++) {
            EDGES.due("count(" + what + ")", prints.count(what), counts[what]);
        }
        for (int sort = 0; sort < 3; sort++) {
            EDGES.due("the empty tape, " + sort, prints.fault(sort), 0);
        }
        Checks.tell(prints, 0, "g");
        PrintsGoOn other = new PrintsGoOn();
        EDGES.due("another has none", other.count(0), 0);
    }

    private static void bounds() {
        EDGES.says("n (1 .. 30) HOURS");
        PrintsGoOn prints = Checks.shore("g");
        EDGES.refused("0", prints, () -> prints.years(0, 1), NONE);
        EDGES.refused("31", prints, () -> prints.years(31, 1), NONE);
        EDGES.refused("the most", prints, () -> prints.years(Integer.MAX_VALUE, 1), NONE);
        for (int out : OUT) {
            EDGES.refused("" + out, prints, () -> prints.years(out, 1), NONE);
        }
        EDGES.due("1", prints.years(1, 1), 1);
        EDGES.due("30", prints.years(30, 1), 31);
        EDGES.says("YEARS: the HOUR. NONE: no SHORE, out of bounds, beyond 9,999.");
        EDGES.refused("no shore", new PrintsGoOn(), () -> new PrintsGoOn().years(1, 1), NONE);
        for (int i = 0; i < 332; i++) {
            prints.years(30, i);
        }
        EDGES.due("9,991", prints.count(6), 9991);
        EDGES.refused("30 are beyond", prints, () -> prints.years(30, 1), NONE);
        EDGES.refused("9 are beyond", prints, () -> prints.years(9, 1), NONE);
        EDGES.due("8 are not", prints.years(8, 1), 9999);
        EDGES.refused("one is", prints, () -> prints.years(1, 1), NONE);
    }

    /** The first draws of a seed, told by numbers that do not go round by themselves. */
    private static long[] shifted(long seed, int howMany) {
        long[] shifted = new long[howMany];
        BigInteger x = BigInteger.valueOf(seed).mod(ROUND);
        for (int i = 0; i < howMany; i++) {
            x = x.multiply(new BigInteger("6364136223846793005")).add(new BigInteger("1442695040888963407")).mod(ROUND);
            shifted[i] = x.shiftRight(33).longValueExact();
        }
        return shifted;
    }

    private static void draws() {
        EDGES.says("(64 bits, going round); a draw of j: (x shifted right by 33, without sign) modulo j.");
        long[] seeds = {0, 1, -1, 2, Long.MIN_VALUE, Long.MAX_VALUE, Integer.MIN_VALUE, 1L << 32, 77, -5, 123456789012345L};
        int highest = 0;
        for (long seed : seeds) {
            long[] shifted = shifted(seed, 60);
            PrintsGoOn prints = Checks.shore("g");
            prints.children(0);
            prints.years(30, seed);
            for (int i = 0; i < 30; i++) {
                EDGES.due("seed " + seed + ", tide of hour " + i, prints.log(29 - i, 2), shifted[2 * i] % 6);
                highest += shifted[2 * i] >= 1L << 30 ? 1 : 0;
            }
        }
        EDGES.due("draws whose sign would have counted came", highest > 20, true);
    }

    /** A seed whose first hour draws this below ten. */
    private static long seedOf(int draw) {
        long seed = 0;
        while (shifted(seed, 2)[1] % 10 != draw) {
            seed++;
        }
        return seed;
    }

    /** Swept off beside where it stopped, it is back there if it was born: by the law it does not go on. */
    private static boolean bears(int children, int draw) {
        PrintsGoOn prints = Checks.shore("sh5;gx2");
        prints.hour();
        prints.sweep(3);
        Checks.tell(prints, 1, "y:0");
        prints.law(0);
        if (prints.count(10) != children) {
            prints.children(children);
        }
        prints.years(1, seedOf(draw));
        return prints.goer(0, 0) == 2;
    }

    private static void children() {
        EDGES.says("then a draw of 10 below CHILDREN (0 .. 9; 3 at first)");
        for (int children = 0; children <= 9; children++) {
            for (int draw = 0; draw < 10; draw++) {
                EDGES.due("a draw of " + draw + " below " + children, bears(children, draw), draw < children);
            }
        }
    }

    private static void firstChildren() {
        EDGES.says("a draw of how many GOERS there are, a draw of 4: that one begins ANEW looking that way (for nothing; not where there is a rock now).");
        String[] goers = {"gx2y2", "gx1y1;gx3y1", "gx1y1;gx3y1;gx2y2", "gx1y1;gx3y1;gx2y2;gx3y3"};
        for (int howMany = 1; howMany <= 4; howMany++) {
            int[] born = new int[howMany];
            int[] looked = new int[4];
            for (long seed = 0; seed < 60; seed++) {
                long[] shifted = shifted(seed, 4);
                PrintsGoOn prints = Checks.shore("sh5c0;" + goers[howMany - 1]);
                for (int goer = 0; goer < howMany; goer++) {
                    prints.give(1);
                    prints.sweep(prints.goer(goer, 0));
                }
                prints.children(9);
                prints.years(1, seed);
                if (shifted[1] % 10 == 9) {
                    EDGES.due("none is born", prints.all(4), (1 << howMany) - 1);
                    continue;
                }
                int goer = (int) (shifted[2] % howMany);
                int look = (int) (shifted[3] % 4);
                born[goer]++;
                looked[look]++;
                int others = (1 << howMany) - 1 & ~(1 << goer);
                EDGES.due("the others stay gone", prints.all(4) & others, others);
                EDGES.due("it looks, for nothing is in its way", prints.goer(goer, 1), look);
                EDGES.due("no coin", prints.count(7), 0);
            }
            for (int i = 0; i < howMany; i++) {
                EDGES.due("each of " + howMany + " was drawn", born[i] > 0, true);
            }
            for (int i = 0; i < 4; i++) {
                EDGES.due("each look was drawn", looked[i] > 0, true);
            }
        }
    }

    private static void childrenAndRocks() {
        EDGES.says("not where there is a rock now");
        long seed = seedOf(0);
        while (shifted(seed, 2)[1] % 10 != 0 || shifted(seed, 1)[0] % 6 != 0) {
            seed++;
        }
        long[] shifted = shifted(seed, 5);
        PrintsGoOn prints = Checks.shore("gx2y2");
        prints.sweep(12);
        prints.stone(12);
        prints.years(2, seed);
        EDGES.due("a rock there", prints.all(4), 1);
        EDGES.due("the draws were made all the same: the tide of the next hour", prints.log(0, 2), shifted[4] % 6);
        EDGES.due("it stays gone", prints.goer(0, 4), 2);
        PrintsGoOn told = Checks.shore("sw6h5;r1;g;gx5y4");
        told.children(9);
        told.sweep(0);
        told.years(30, 3);
        EDGES.due("it stopped on a rock: never born", told.all(4) & 1, 1);
        PrintsGoOn last = Checks.shore("sw6h5;r00001;gx5y4;gx5y4;gx5y4;gx4");
        last.children(9);
        last.sweep(4);
        last.years(30, 3);
        EDGES.due("the last of four, too", last.all(4) & 8, 8);
        last.stone(4);
        last.years(30, 3);
        EDGES.due("once the rock is away it is born", last.goer(3, 0) != 4 || last.goer(3, 4) != 2, true);
        PrintsGoOn water = Checks.shore("r2;g");
        water.sweep(0);
        water.years(1, seed);
        EDGES.due("water is no rock: born, and gone in the hour", water.log(0, 1), 1);
    }

    private static void acts() {
        EDGES.says("Each HOUR with what is ahead of it is one ACT.");
        PrintsGoOn prints = Checks.shore("sw6h5;gx2y2p2;gx4y1");
        prints.children(9);
        String[] states = new String[31];
        for (int i = 0; i <= 30; i++) {
            PrintsGoOn some = Checks.shore("sw6h5;gx2y2p2;gx4y1");
            some.children(9);
            if (i > 0) {
                some.years(i, 42);
            }
            states[i] = State.of(some);
        }
        prints.years(30, 42);
        for (int i = 29; i >= 0; i--) {
            EDGES.due("acts left", prints.undo(), i);
            EDGES.due("as behind " + i + " hours", State.of(prints), states[i]);
        }
        prints.years(30, 1);
        prints.years(30, 2);
        EDGES.due("forty at most", prints.count(13), 40);
    }

    private static void images() {
        EDGES.says("An IMAGE keeps KINDS of CELLS, PRINTS, the TIDE, MEETINGS, COINS, the HOUR, the LOG; BACK: they are so again (no ACT can be UNDONE then).");
        PrintsGoOn prints = Checks.shore("sw6c30;r003;gx0p2;gx5b3;gx3y2b0;gx3y0b2");
        prints.hour();
        prints.stone(6);
        prints.tide(1);
        prints.anew(0, 2);
        String before = State.withoutActs(prints);
        EDGES.due("the hour", prints.image(), 1);
        EDGES.due("an image is no act", prints.count(13), 4);
        prints.stone(6);
        prints.stone(7);
        prints.hour();
        prints.tide(3);
        prints.years(5, 9);
        prints.sweep(prints.goer(1, 0));
        EDGES.due("back", prints.back(), 1);
        EDGES.due("all is as it was", State.withoutActs(prints), before);
        EDGES.refused("no act", prints, prints::undo, NONE);
        prints.hour();
        EDGES.due("acts behind it can be undone", prints.undo(), 0);
        EDGES.due("and leave it", State.withoutActs(prints), before);
        prints.hour();
        EDGES.due("back once more", prints.back(), 1);
        EDGES.due("it is the same", State.withoutActs(prints), before);
        EDGES.says("(instead of the one ahead)");
        prints.give(7);
        EDGES.due("another", prints.image(), 1);
        prints.give(7);
        prints.back();
        EDGES.due("coins of that", prints.count(7), 30 - 2 - 3 + 7);
        EDGES.says("SEEN (10 at most)");
        prints.seen(0, 1, 1);
        prints.children(7);
        Checks.tell(prints, 1, "y:2");
        prints.law(0);
        prints.back();
        EDGES.due("what was seen is not in an image", prints.count(11), 1);
        EDGES.due("nor are children", prints.count(10), 7);
        EDGES.due("nor is the law that holds", prints.count(5), 0);
    }

    private static void noImages() {
        EDGES.says("An IMAGE (instead of the one ahead): the HOUR. NONE: no SHORE.");
        PrintsGoOn prints = new PrintsGoOn();
        EDGES.refused("no shore", prints, prints::image, NONE);
        EDGES.says("BACK: the HOUR. NONE: no IMAGE of this SHORE.");
        EDGES.refused("no shore", prints, prints::back, NONE);
        Checks.tell(prints, 0, "g");
        EDGES.refused("none of it", prints, prints::back, NONE);
        EDGES.due("at hour 0", prints.image(), 0);
        prints.hour();
        EDGES.due("back at hour 0", prints.back(), 0);
        Checks.tell(prints, 0, "g");
        EDGES.refused("one of another shore, told alike", prints, prints::back, NONE);
        Checks.tell(prints, 0, "gx");
        EDGES.due("a shore that was refused", prints.image(), 0);
        EDGES.due("takes nothing away", prints.back(), 0);
    }

    private static void imageOfTheLog() {
        EDGES.says("An IMAGE keeps KINDS of CELLS, PRINTS, the TIDE, MEETINGS, COINS, the HOUR, the LOG");
        PrintsGoOn prints = Checks.shore("sw6h5;gx2y2;gx4y1");
        prints.years(30, 1);
        prints.years(30, 2);
        prints.years(7, 3);
        String before = State.withoutActs(prints);
        prints.image();
        for (int i = 0; i < 5; i++) {
            prints.years(30, 4 + i);
        }
        EDGES.due("150 hours on", prints.count(6), 217);
        prints.back();
        EDGES.due("the whole log is back", State.withoutActs(prints), before);
        prints.years(30, 50);
        for (int i = 0; i < 30; i++) {
            prints.undo();
        }
        EDGES.due("and is so behind hours undone", State.withoutActs(prints), before);
    }

    private static void counts() {
        EDGES.says("12 how long the LOG is, 13 ACTS that can be UNDONE. HIDDEN for others.");
        PrintsGoOn prints = Checks.shore("sw6h5t1c99;g;g;g;g");
        EDGES.refused("14", prints, () -> prints.count(14), HIDDEN);
        EDGES.refused("the most", prints, () -> prints.count(Integer.MAX_VALUE), HIDDEN);
        for (int out : OUT) {
            EDGES.refused("" + out, prints, () -> prints.count(out), HIDDEN);
        }
        for (int i = 0; i < 61; i++) {
            prints.hour();
        }
        prints.give(50);
        int[] counts = {30, 4, 0, 0, 0, NONE, 61, 149, 1, 366, 3, 0, 60, 40};
        for (int what = 0; what < counts.length; what++) {
            EDGES.due("count(" + what + ")", prints.count(what), counts[what]);
        }
    }

    private static void manyCalls() {
        EDGES.says("An object is used for at most 512 calls after it has been made");
        PrintsGoOn prints = new PrintsGoOn();
        prints.feed('g' << 24, 0, 0, 0, 0);
        prints.text(0);
        for (int call = 3; call <= 512; call++) {
            int tide = call % 2;
            EDGES.due("call " + call, prints.tide(tide), 1 - tide);
        }
    }
}
