/** Promises 10 to 18, 37 and 38: acts, the log, undoing and images. */
public final class ActsTest {
    private static final Checks CHECKS = new Checks("ActsTest");

    public static void main(String[] args) {
        hours();
        meetings();
        tides();
        stones();
        sweeping();
        anew();
        giving();
        years();
        undoing();
        logs();
        images();
        CHECKS.end();
    }

    private static void state(String what, PrintsGoOn prints, int goer, int... due) {
        for (int i = 0; i < due.length; i++) {
            CHECKS.due(what + ": goer(" + goer + ", " + i + ")", prints.goer(goer, i), due[i]);
        }
    }

    private static void hours() {
        PrintsGoOn prints = Checks.shore("sw3h2;r001;r2;gx0y0p3");
        CHECKS.due("10: hour", prints.hour(), 0);
        state("10: one right, then to the right of the rock, then as far as the edge", prints, 0, 3, 3, 3, 3, 2);
        CHECKS.due("10: an hour of nobody", prints.hour(), 0);
        CHECKS.due("10: the hour", prints.count(6), 2);
        CHECKS.due("10: no shore", new PrintsGoOn().hour(), -1);
        PrintsGoOn stuck = Checks.shore("sw2h2;r01;r1;g");
        stuck.hour();
        state("10: it turns by one a step and stays", stuck, 0, 0, 2, 1, 0, 0);
        stuck.hour();
        state("10: it turns on", stuck, 0, 0, 3, 1, 0, 0);
        PrintsGoOn hotel = Checks.shore("r003;gp4");
        hotel.hour();
        state("10: it stays in the hotel", hotel, 0, 2, 1, 4, 2, 1);
        PrintsGoOn start = Checks.shore("r2;gb1");
        start.hour();
        state("10: where it stopped was under", start, 0, 0, 1, 1, 0, 2);
        PrintsGoOn told = Checks.shore("r3;gb1");
        told.hour();
        state("10: from a hotel it goes on", told, 0, 1, 1, 1, 1, 0);
        PrintsGoOn rock = Checks.shore("r1;gb1;sw2");
        rock.hour();
        state("10: from a rock, too", rock, 0, 1, 1, 1, 1, 0);
        PrintsGoOn tide = Checks.shore("sw2h2t1;r00;r13;gb2;gx1b2");
        tide.hour();
        state("10: rock under the tide is rock", tide, 0, 0, 3, 1, 0, 0);
        state("10: a hotel under the tide is under", tide, 1, 3, 2, 1, 1, 2);
    }

    private static void meetings() {
        PrintsGoOn prints = Checks.shore("sw6;gx0b1;gx2b3;gx1y1b0;gx1y0b1p1");
        CHECKS.due("10: three on cell 1", prints.hour(), 3);
        state("10: the first turned", prints, 0, 1, 3, 1, 1, 0);
        state("10: the second turned", prints, 1, 1, 1, 1, 1, 0);
        state("10: the third turned", prints, 2, 1, 2, 1, 1, 0);
        state("10: the fourth met nobody", prints, 3, 2, 1, 1, 1, 0);
        CHECKS.due("10: meetings", prints.count(9), 3);
        PrintsGoOn past = Checks.shore("sw2h2;gx0b1;gx1b3");
        CHECKS.due("10: two that go past one another do not meet", past.hour(), 0);
        PrintsGoOn still = Checks.shore("r01;r1;g;gb3");
        CHECKS.due("10: two that stay on one cell meet", still.hour(), 1);
        CHECKS.due("10: they meet again", still.hour(), 1);
        PrintsGoOn hotel = Checks.shore("r3;gx1b3;gx1b3");
        CHECKS.due("10: within a hotel nobody meets", hotel.hour(), 0);
    }

    private static void tides() {
        PrintsGoOn prints = Checks.shore("st2;g");
        CHECKS.due("11: it is so", prints.tide(2), -1);
        CHECKS.due("11: 6", prints.tide(6), -1);
        CHECKS.due("11: -1", prints.tide(-1), -1);
        CHECKS.due("11: 5", prints.tide(5), 2);
        CHECKS.due("11: 0", prints.tide(0), 5);
        CHECKS.due("11: for nothing", prints.count(7), 20);
        CHECKS.due("11: two acts", prints.count(13), 2);
        CHECKS.due("11: no shore", new PrintsGoOn().tide(1), -1);
    }

    private static void stones() {
        PrintsGoOn prints = Checks.shore("sc5;r0123;gx4y0b0;gx1y0;gx0y3");
        CHECKS.due("12: sand", prints.stone(0), 1);
        CHECKS.due("12: water", prints.stone(2), -1);
        CHECKS.due("12: a hotel", prints.stone(3), -1);
        CHECKS.due("12: prints go there", prints.stone(4), -1);
        CHECKS.due("12: prints on a rock", prints.stone(1), -1);
        CHECKS.due("12: cell 20", prints.stone(20), -1);
        CHECKS.due("12: cell -1", prints.stone(-1), -1);
        CHECKS.due("12: three coins", prints.count(7), 3);
        CHECKS.due("12: rock", prints.stone(0), 0);
        CHECKS.due("12: one coin is too few", prints.stone(0), -1);
        CHECKS.due("12: two acts", prints.count(13), 2);
        prints.give(9);
        prints.sweep(15);
        CHECKS.due("12: prints that are gone", prints.stone(15), 1);
        CHECKS.due("12: no shore", new PrintsGoOn().stone(0), -1);
    }

    private static void sweeping() {
        PrintsGoOn prints = Checks.shore("sc2;gx1;gx1b2;gx2;gx3");
        CHECKS.due("13: nothing goes there", prints.sweep(0), -1);
        CHECKS.due("13: cell 20", prints.sweep(20), -1);
        CHECKS.due("13: cell -1", prints.sweep(-1), -1);
        CHECKS.due("13: two", prints.sweep(1), 2);
        state("13: gone where it was", prints, 1, 1, 2, 1, 0, 2);
        CHECKS.due("13: nothing goes there now", prints.sweep(1), -1);
        CHECKS.due("13: one", prints.sweep(2), 1);
        CHECKS.due("13: no coin", prints.sweep(3), -1);
        CHECKS.due("13: it still goes", prints.all(2), 8);
        CHECKS.due("13: no shore", new PrintsGoOn().sweep(0), -1);
    }

    private static void anew() {
        PrintsGoOn prints = Checks.shore("sc10;gx1y1b2p2;gx0y0");
        prints.hour();
        state("14: it went two down", prints, 0, 16, 2, 2, 2, 0);
        CHECKS.due("14: anew", prints.anew(0, 3), 6);
        state("14: as it stopped", prints, 0, 6, 3, 2, 0, 0);
        CHECKS.due("14: goer 2", prints.anew(2, 0), -1);
        CHECKS.due("14: goer -1", prints.anew(-1, 0), -1);
        CHECKS.due("14: look 4", prints.anew(0, 4), -1);
        CHECKS.due("14: look -1", prints.anew(0, -1), -1);
        CHECKS.due("14: seven coins", prints.count(7), 7);
        prints.stone(0);
        CHECKS.due("14: a rock there now", prints.anew(1, 1), -1);
        CHECKS.due("14: one that is going", prints.anew(0, 1), 6);
        CHECKS.due("14: two coins are too few", prints.anew(0, 2), -1);
        CHECKS.due("14: no shore", new PrintsGoOn().anew(0, 0), -1);
        PrintsGoOn water = Checks.shore("r2;g");
        water.hour();
        CHECKS.due("14: where it is under", water.anew(0, 0), 0);
        CHECKS.due("14: it goes", water.goer(0, 4), 0);
        PrintsGoOn rock = Checks.shore("r1;g");
        CHECKS.due("14: it stopped on a rock", rock.anew(0, 0), -1);
    }

    private static void giving() {
        PrintsGoOn prints = Checks.shore("sc99;g");
        CHECKS.due("15: 0", prints.give(0), -1);
        CHECKS.due("15: 51", prints.give(51), -1);
        CHECKS.due("15: -1", prints.give(-1), -1);
        for (int i = 1; i <= 18; i++) {
            CHECKS.due("15: 50", prints.give(50), 99 + 50 * i);
        }
        CHECKS.due("15: above 999", prints.give(1), -1);
        CHECKS.due("15: 999", prints.count(7), 999);
        CHECKS.due("15: no shore", new PrintsGoOn().give(1), -1);
    }

    /** Draws by hand: what the seed gives is worked out here by the document's words alone. */
    private static void years() {
        long seed = 5;
        long x = seed;
        int[] draws = new int[12];
        for (int i = 0; i < draws.length; i++) {
            x = x * 6364136223846793005L + 1442695040888963407L;
            draws[i] = (int) (x >>> 33);
        }
        PrintsGoOn prints = Checks.shore("sw6h5;gx2y0b0;gx3y0b0");
        prints.children(0);
        CHECKS.due("16: years", prints.years(2, seed), 2);
        CHECKS.due("16: the tide of the first hour", prints.log(1, 2), draws[0] % 6);
        CHECKS.due("16: the tide of the second", prints.log(0, 2), draws[2] % 6);
        CHECKS.due("16: the tide now", prints.count(8), draws[2] % 6);
        CHECKS.due("16: two acts", prints.count(13), 2);
        CHECKS.due("16: for nothing", prints.count(7), 20);
        CHECKS.due("16: undone", prints.undo(), 1);
        CHECKS.due("16: the tide is undone with its hour", prints.count(8), draws[0] % 6);
        prints.undo();
        CHECKS.due("16: as told", prints.count(8), 0);
        prints.children(9);
        prints.years(1, seed);
        boolean begins = draws[1] % 10 < 9;
        int born = draws[2] % 2;
        int look = draws[3] % 4;
        CHECKS.due("16: this seed has a child", begins, true);
        CHECKS.due("16: the other one is by the rule", prints.goer(1 - born, 1), 1);
        int ahead = look == 0 ? 1 : look;
        CHECKS.due("16: the child looks that way", prints.goer(born, 1), ahead);
        CHECKS.due("16: 0 hours", prints.years(0, 1), -1);
        CHECKS.due("16: 31 hours", prints.years(31, 1), -1);
        CHECKS.due("16: 30 hours", prints.years(30, Long.MIN_VALUE), 31);
        CHECKS.due("16: no shore", new PrintsGoOn().years(1, 1), -1);
        PrintsGoOn rock = Checks.shore("sh5;r1;g");
        rock.children(9);
        rock.sweep(0);
        rock.years(30, 1);
        CHECKS.due("16: none begins on a rock", rock.all(4), 1);
    }

    private static void undoing() {
        PrintsGoOn prints = Checks.shore("sw6c30;gx0b1;gx2b3");
        CHECKS.due("17: none", prints.undo(), -1);
        prints.tide(1);
        prints.stone(5);
        prints.hour();
        prints.sweep(1);
        prints.anew(0, 2);
        prints.give(1);
        CHECKS.due("17: coins", prints.count(7), 30 - 2 - 1 - 3 + 1);
        CHECKS.due("17: give", prints.undo(), 5);
        CHECKS.due("17: coins ahead of it", prints.count(7), 24);
        CHECKS.due("17: anew", prints.undo(), 4);
        state("17: swept on cell 1", prints, 0, 1, 3, 1, 1, 2);
        CHECKS.due("17: sweep", prints.undo(), 3);
        CHECKS.due("17: both go", prints.all(2), 3);
        CHECKS.due("17: they met", prints.count(9), 1);
        CHECKS.due("17: hour", prints.undo(), 2);
        CHECKS.due("17: hour 0", prints.count(6), 0);
        CHECKS.due("17: no log", prints.count(12), 0);
        CHECKS.due("17: no meeting", prints.count(9), 0);
        state("17: as told", prints, 1, 2, 3, 1, 0, 0);
        CHECKS.due("17: stone", prints.undo(), 1);
        CHECKS.due("17: sand", prints.shore(5, 0), 0);
        CHECKS.due("17: tide", prints.undo(), 0);
        CHECKS.due("17: no tide", prints.count(8), 0);
        CHECKS.due("17: none left", prints.undo(), -1);
        prints.law(-1);
        prints.children(4);
        prints.seen(0, 0, 0);
        prints.image();
        prints.stone(99);
        CHECKS.due("17: none of these is an act", prints.count(13), 0);
    }

    private static void logs() {
        PrintsGoOn prints = Checks.shore("sw6;r000003;gx0b1;gx2b3;gx4b1");
        CHECKS.due("18: none", prints.log(0, 0), -1);
        prints.hour();
        prints.tide(3);
        prints.hour();
        CHECKS.due("18: the latest", prints.log(0, 0), 0);
        CHECKS.due("18: the tide of the latest", prints.log(0, 2), 3);
        CHECKS.due("18: meetings ahead of it", prints.log(1, 0), 1);
        CHECKS.due("18: in, ahead of it", prints.log(1, 1), 4);
        CHECKS.due("18: the tide ahead of it", prints.log(1, 2), 0);
        CHECKS.due("18: i 2", prints.log(2, 0), -1);
        CHECKS.due("18: i -1", prints.log(-1, 0), -1);
        CHECKS.due("18: what 3", prints.log(0, 3), -1);
        CHECKS.due("18: what -1", prints.log(0, -1), -1);
        prints.tide(4);
        prints.hour();
        CHECKS.due("18: both are gone", prints.log(0, 1), 3);
        longLog();
    }

    /** Tides tell the hours apart: hour i has the tide i modulo 6. */
    private static void longLog() {
        PrintsGoOn prints = Checks.shore("sh5;g");
        prints.tide(5);
        for (int i = 0; i < 120; i++) {
            prints.tide(i % 6);
            prints.hour();
            CHECKS.due("18: how long", prints.count(12), Math.min(60, i + 1));
        }
        for (int i = 0; i < 60; i++) {
            CHECKS.due("18: tide " + i, prints.log(i, 2), (119 - i) % 6);
        }
        CHECKS.due("18: the 61st", prints.log(60, 2), -1);
        for (int i = 0; i < 40; i++) {
            prints.undo();
        }
        CHECKS.due("18: twenty hours are undone", prints.count(6), 100);
        CHECKS.due("18: the log is whole", prints.count(12), 60);
        for (int i = 0; i < 60; i++) {
            CHECKS.due("18: tide " + i + " undone", prints.log(i, 2), (99 - i) % 6);
        }
        PrintsGoOn hours = Checks.shore("sh5;g");
        hours.children(0);
        hours.years(30, 1);
        hours.years(30, 2);
        int[] tides = new int[60];
        for (int i = 0; i < 60; i++) {
            tides[i] = hours.log(i, 2);
        }
        hours.years(30, 3);
        hours.years(10, 4);
        for (int i = 0; i < 40; i++) {
            hours.undo();
        }
        CHECKS.due("18: forty hours are undone", hours.count(6), 60);
        for (int i = 0; i < 60; i++) {
            CHECKS.due("18: tide " + i + " behind forty undone", hours.log(i, 2), tides[i]);
        }
    }

    private static void images() {
        PrintsGoOn prints = Checks.shore("sw6;gx0b1;gx2b3;gx5y3");
        CHECKS.due("38: none", prints.back(), -1);
        CHECKS.due("37: no shore", new PrintsGoOn().image(), -1);
        prints.hour();
        prints.stone(11);
        CHECKS.due("37: image", prints.image(), 1);
        prints.tide(4);
        prints.stone(11);
        prints.hour();
        prints.hour();
        prints.anew(0, 3);
        CHECKS.due("38: acts", prints.count(13), 7);
        CHECKS.due("38: back", prints.back(), 1);
        CHECKS.due("38: kinds", prints.shore(11, 0), 1);
        state("38: prints", prints, 0, 1, 3, 1, 1, 0);
        CHECKS.due("38: tide", prints.count(8), 0);
        CHECKS.due("38: meetings", prints.count(9), 1);
        CHECKS.due("38: coins", prints.count(7), 18);
        CHECKS.due("38: log", prints.count(12), 1);
        CHECKS.due("38: what it says", prints.log(0, 0), 1);
        CHECKS.due("38: no act", prints.undo(), -1);
        prints.hour();
        CHECKS.due("38: an act behind it", prints.undo(), 0);
        prints.hour();
        CHECKS.due("37: another instead", prints.image(), 2);
        prints.hour();
        CHECKS.due("38: back to that", prints.back(), 2);
        CHECKS.due("38: and again", prints.back(), 2);
    }
}
