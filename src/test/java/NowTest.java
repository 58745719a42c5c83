import java.util.NoSuchElementException;

/** Promises 6 to 9, 34, 36 and 39: what is so now. */
public final class NowTest {
    private static final Checks CHECKS = new Checks("NowTest");
    /** Four by three: rock, water and a hotel in the middle row. */
    private static final String SHORE = "sw4h3c50;r;r123;gx0y0b1;gx1y0b3p2;gx3y2b0p4;gx3y1b2";

    public static void main(String[] args) {
        cells();
        goers();
        laws();
        children();
        shares();
        all();
        parts();
        counts();
        CHECKS.end();
    }

    private static void cells() {
        PrintsGoOn prints = Checks.shore(SHORE);
        int[] kinds = {0, 0, 0, 0, 1, 2, 3, 0, 0, 0, 0, 0};
        for (int cell = 0; cell < 12; cell++) {
            CHECKS.due("6: shore(" + cell + ", 0)", prints.shore(cell, 0), kinds[cell]);
            CHECKS.due("6: shore(" + cell + ", 1)", prints.shore(cell, 1), cell == 5 ? 1 : 0);
        }
        prints.tide(2);
        CHECKS.due("6: row 0 is above a tide of 2", prints.shore(3, 1), 0);
        CHECKS.due("6: row 1 is under it", prints.shore(4, 1), 1);
        prints.tide(5);
        CHECKS.due("6: all is under a tide of 5", prints.shore(0, 1), 1);
        CHECKS.due("6: its kind stays", prints.shore(6, 0), 3);
        CHECKS.due("6: cell 12", prints.shore(12, 0), -1);
        CHECKS.due("6: cell -1", prints.shore(-1, 1), -1);
        CHECKS.due("6: what 2", prints.shore(0, 2), -1);
        CHECKS.due("6: what -1", prints.shore(0, -1), -1);
    }

    private static boolean isRefused(PrintsGoOn prints, int goer, int what) {
        try {
            prints.goer(goer, what);
            return false;
        } catch (NoSuchElementException e) {
            return true;
        }
    }

    private static void goers() {
        PrintsGoOn prints = Checks.shore(SHORE);
        int[][] due = {{0, 1, 1, 0, 0}, {1, 3, 2, 0, 0}, {11, 0, 4, 0, 0}, {7, 2, 1, 0, 0}};
        for (int goer = 0; goer < 4; goer++) {
            for (int what = 0; what < 5; what++) {
                CHECKS.due("7: goer(" + goer + ", " + what + ")", prints.goer(goer, what), due[goer][what]);
            }
        }
        CHECKS.due("7: goer 4", isRefused(prints, 4, 0), true);
        CHECKS.due("7: goer -1", isRefused(prints, -1, 0), true);
        CHECKS.due("7: what 5", isRefused(prints, 0, 5), true);
        CHECKS.due("7: what -1", isRefused(prints, 0, -1), true);
        CHECKS.due("7: no shore", isRefused(new PrintsGoOn(), 0, 0), true);
    }

    private static void laws() {
        PrintsGoOn prints = Checks.shore("g");
        CHECKS.due("8: law(0) of none", prints.law(0), false);
        CHECKS.due("8: none", prints.law(-1), true);
        Checks.tell(prints, 1, "y:2");
        CHECKS.due("8: it does not hold by itself", prints.ahead(0), 1);
        CHECKS.due("8: law(0)", prints.law(0), true);
        CHECKS.due("8: it holds", prints.ahead(0), 5);
        CHECKS.due("8: again", prints.law(0), true);
        CHECKS.due("8: law(1)", prints.law(1), false);
        CHECKS.due("8: law(-2)", prints.law(-2), false);
        CHECKS.due("8: it still holds", prints.count(5), 0);
        CHECKS.due("8: none holds", prints.law(-1), true);
        CHECKS.due("8: as it looks", prints.ahead(0), 1);
    }

    private static void children() {
        PrintsGoOn prints = new PrintsGoOn();
        CHECKS.due("9: it is so", prints.children(3), false);
        CHECKS.due("9: -1", prints.children(-1), false);
        CHECKS.due("9: 10", prints.children(10), false);
        CHECKS.due("9: 9", prints.children(9), true);
        CHECKS.due("9: 9 again", prints.children(9), false);
        CHECKS.due("9: 0", prints.children(0), true);
        CHECKS.due("9: count(10)", prints.count(10), 0);
    }

    /** One goes a cell an hour, the other three, along rows of six. */
    private static void shares() {
        PrintsGoOn prints = Checks.shore("sw6;gx0y0;gx0y2p3");
        CHECKS.due("34: none went", prints.shares(0, 999), 0);
        prints.hour();
        CHECKS.due("34: 1 of 4", prints.shares(0, 999), 249);
        CHECKS.due("34: 3 of 4", prints.shares(1, 999), 749);
        CHECKS.due("34: of 0", prints.shares(1, 0), 0);
        CHECKS.due("34: 1000", prints.shares(1, 1000), -1);
        CHECKS.due("34: -1", prints.shares(1, -1), -1);
        CHECKS.due("34: goer 2", prints.shares(2, 1), -1);
        CHECKS.due("34: goer -1", prints.shares(-1, 1), -1);
    }

    private static void all() {
        PrintsGoOn prints = Checks.shore(SHORE);
        int[] due = {0, 2, 15, 0, 0, 10, 1, 1, 1 | 1 << 1 | 1 << 11 | 1 << 7, 2};
        for (int what = 0; what < 10; what++) {
            CHECKS.due("36: all(" + what + ")", prints.all(what), due[what]);
        }
        CHECKS.due("36: all(10)", prints.all(10), -1);
        CHECKS.due("36: all(-1)", prints.all(-1), -1);
        CHECKS.due("36: no shore", new PrintsGoOn().all(0), -1);
        CHECKS.due("36: 0 and 1 go past one another, 1 turns at the edge", prints.hour(), 0);
        CHECKS.due("36: the farthest went four: 7, 3, then to the right of up", prints.all(0), 2);
        prints.sweep(prints.goer(2, 0));
        CHECKS.due("36: gone", prints.all(4), 4);
        CHECKS.due("36: going", prints.all(2), 11);
    }

    private static void parts() {
        PrintsGoOn prints = Checks.shore("sw5h3;r00100;r11111;r00203;gx0y0;gx0y0b2;gx0y0;gx1y0b3");
        CHECKS.due("36: dry", prints.all(5), 8);
        CHECKS.due("36: parts", prints.all(6), 4);
        CHECKS.due("36: crowd", prints.all(7), 3);
        CHECKS.due("36: faced, twice", prints.all(9), 2);
        CHECKS.due("36: busy", prints.all(8), 3);
        prints.sweep(0);
        CHECKS.due("36: the crowd is one", prints.all(7), 1);
        prints.sweep(1);
        CHECKS.due("36: no crowd", prints.all(7), 0);
        CHECKS.due("36: nothing busy", prints.all(8), 0);
        CHECKS.due("36: none faced", prints.all(9), 0);
        CHECKS.due("36: of several the lowest", prints.all(0), 0);
        PrintsGoOn edge = Checks.shore("sw5;gx4y0b1;gx0y1b3");
        CHECKS.due("36: none looks round the edge", edge.all(9), 0);
        PrintsGoOn in = Checks.shore("r03;gx0");
        in.hour();
        CHECKS.due("36: in", in.all(3), 1);
        CHECKS.due("36: in is not going", in.all(2), 0);
        CHECKS.due("36: in is not gone", in.all(4), 0);
    }

    private static void counts() {
        PrintsGoOn prints = Checks.shore("sw2h2t1c9;g;gx1");
        prints.hour();
        prints.seen(0, 0, 0);
        Checks.type(prints, "abc");
        int[] due = {4, 2, 0, 0, 3, -1, 1, 9, 1, 0, 3, 1, 1, 1};
        for (int what = 0; what < due.length; what++) {
            CHECKS.due("39: count(" + what + ")", prints.count(what), due[what]);
        }
        CHECKS.due("39: count(14)", prints.count(14), -1000000);
        CHECKS.due("39: count(-1)", prints.count(-1), -1000000);
    }
}
