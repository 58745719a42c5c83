/** Promises 22 to 33 and 35: what is asked ahead of time; none of it changes the shore. */
public final class AheadTest {
    private static final int HIDDEN = PrintsGoOn.HIDDEN;
    private static final Checks CHECKS = new Checks("AheadTest");

    public static void main(String[] args) {
        where();
        meet();
        ends();
        again();
        way();
        stones();
        fits();
        asking();
        games();
        rests();
        odds();
        oddsThatAreCut();
        next();
        CHECKS.end();
    }

    /** Round a shore of two by two: 0, 1, 3, 2, 0; at each corner it turns and goes on. */
    private static void where() {
        PrintsGoOn prints = Checks.shore("sw2h2;g");
        int[] round = {0, 1, 3, 2};
        for (int n = 0; n < 100; n++) {
            CHECKS.due("22: where(0, " + n + ")", prints.where(0, n), round[n % 4]);
        }
        CHECKS.due("22: 100", prints.where(0, 100), -1);
        CHECKS.due("22: -1", prints.where(0, -1), -1);
        CHECKS.due("22: goer 1", prints.where(1, 0), -1);
        CHECKS.due("22: goer -1", prints.where(-1, 0), -1);
        CHECKS.due("22: the hour stays", prints.count(6), 0);
        CHECKS.due("22: the log stays", prints.count(12), 0);
        PrintsGoOn hotel = Checks.shore("r003;g");
        CHECKS.due("22: in a hotel", hotel.where(0, 99), 2);
        PrintsGoOn two = Checks.shore("sw3h2;gx0b1;gx2b3");
        CHECKS.due("22: one that met somebody comes back", two.where(0, 2), 0);
    }

    private static void meet() {
        PrintsGoOn prints = Checks.shore("sw6;gx0b1;gx4b3;gx2y2b0;gx5y3b2");
        CHECKS.due("23: 0 and 1", prints.meet(0, 1), 2);
        CHECKS.due("23: 1 and 0", prints.meet(1, 0), 2);
        CHECKS.due("23: 2 comes, too", prints.meet(2, 0), 2);
        CHECKS.due("23: alike", prints.meet(1, 1), -1);
        CHECKS.due("23: goer 4", prints.meet(0, 4), -1);
        CHECKS.due("23: goer -1", prints.meet(-1, 0), -1);
        prints.sweep(0);
        CHECKS.due("23: one is gone", prints.meet(0, 1), -1);
        PrintsGoOn apart = Checks.shore("sw2h2;gx0y0;gx1y1b3");
        CHECKS.due("23: round and round, never", apart.meet(0, 1), -1);
        PrintsGoOn now = Checks.shore("sw2h2;g;g");
        CHECKS.due("23: on one cell, and in an hour again", now.meet(0, 1), 1);
        PrintsGoOn late = Checks.shore("sw2h2;r01;r1;g;gx1y1b1", "y:t=3?1;y:b");
        CHECKS.due("23: by walls, never", late.meet(0, 1), -1);
        PrintsGoOn last = Checks.shore("sw2h2;g;gx0y1p2", "y:p=2?2;y:n=98?2;y:n/2*2=n?1;y:3");
        CHECKS.due("23: to and fro, then down: in 99", last.meet(0, 1), 99);
        PrintsGoOn later = Checks.shore("sw2h2;g;gx1y1p2", "y:p=2?2;y:n=99?2;y:n/2*2=n?1;y:3");
        CHECKS.due("23: in 100 it is not told", later.meet(0, 1), -1);
        later.hour();
        CHECKS.due("23: an hour on it is", later.meet(0, 1), 99);
    }

    private static void ends() {
        PrintsGoOn prints = Checks.shore("sw6;r000003;gx0b1;gx0y1b1p2;gx5y2b2p1");
        CHECKS.due("24: in five hours", prints.ends(0, 0), 5);
        CHECKS.due("24: in a hotel", prints.ends(0, 1), 1);
        prints.tide(1);
        CHECKS.due("24: the third goes down and is washed away", prints.ends(2, 0), 1);
        CHECKS.due("24: gone", prints.ends(2, 1), 2);
        prints.sweep(17);
        CHECKS.due("24: gone now", prints.ends(2, 0), 0);
        CHECKS.due("24: how", prints.ends(2, 1), 2);
        CHECKS.due("24: what 2", prints.ends(2, 2), -1);
        CHECKS.due("24: what -1", prints.ends(2, -1), -1);
        CHECKS.due("24: goer 3", prints.ends(3, 0), -1);
        CHECKS.due("24: goer -1", prints.ends(-1, 0), -1);
        PrintsGoOn never = Checks.shore("sw2h2;g");
        CHECKS.due("24: never", never.ends(0, 0), -1);
        CHECKS.due("24: no how", never.ends(0, 1), -1);
        endsAtTheLast();
    }

    /** To and fro until n tells that it is time: the 99th hour is the last that counts. */
    private static void endsAtTheLast() {
        PrintsGoOn prints = Checks.shore("sw2h2;r00;r30;g", "y:n=98?2;y:n/2*2=n?1;y:3");
        CHECKS.due("24: behind 99", prints.ends(0, 0), 99);
        CHECKS.due("24: how behind 99", prints.ends(0, 1), 1);
        PrintsGoOn later = Checks.shore("sw2h2;r00;r03;g", "y:n=99?2;y:n/2*2=n?1;y:3");
        CHECKS.due("24: behind 100 it is not told", later.ends(0, 0), -1);
        later.hour();
        CHECKS.due("24: an hour on it is", later.ends(0, 0), 99);
    }

    private static void again() {
        PrintsGoOn prints = Checks.shore("sw2h2;g");
        CHECKS.due("25: whenever it is back it looks up", prints.again(0), -1);
        prints.hour();
        prints.hour();
        CHECKS.due("25: then every four", prints.again(0), 4);
        CHECKS.due("25: goer 1", prints.again(1), -1);
        CHECKS.due("25: goer -1", prints.again(-1), -1);
        prints.sweep(prints.goer(0, 0));
        CHECKS.due("25: it does not go", prints.again(0), -1);
        PrintsGoOn stay = Checks.shore("g", "y:0");
        stay.hour();
        CHECKS.due("25: it stays and looks up", stay.again(0), 1);
        PrintsGoOn last = Checks.shore("sw2h2;r00;r10;gb2", "y:n=98?2;y:n/2*2=n?1;y:3");
        CHECKS.due("25: to and fro, then it looks down: in 99", last.again(0), 99);
    }

    private static void way() {
        PrintsGoOn prints = Checks.shore("sw4h3;r0100;r0120;r0003;g");
        CHECKS.due("26: round the rocks", prints.way(0, 2), 8);
        CHECKS.due("26: and back", prints.way(2, 0), 8);
        CHECKS.due("26: to a hotel", prints.way(0, 11), 5);
        CHECKS.due("26: to itself", prints.way(10, 10), 0);
        CHECKS.due("26: a rock to itself", prints.way(1, 1), -1);
        CHECKS.due("26: water to itself", prints.way(6, 6), -1);
        CHECKS.due("26: to a rock", prints.way(0, 1), -1);
        CHECKS.due("26: from a rock", prints.way(1, 0), -1);
        CHECKS.due("26: not round the edge", prints.way(3, 4), 6);
        prints.tide(1);
        CHECKS.due("26: by the tide no way", prints.way(0, 2), -1);
        CHECKS.due("26: a way that is left", prints.way(0, 4), 1);
        CHECKS.due("26: cell 12", prints.way(0, 12), -1);
        CHECKS.due("26: cell -1", prints.way(-1, 0), -1);
        CHECKS.due("26: no shore", new PrintsGoOn().way(0, 0), -1);
        PrintsGoOn snake = Checks.shore("sw6h5;r000000;r111110;r000000;r011111;r000000;g");
        CHECKS.due("26: a long way", snake.way(0, 29), 19);
    }

    private static void stones() {
        PrintsGoOn prints = Checks.shore("sw5h2;r00000;r11111;gx0b1;gx4b3");
        CHECKS.due("27: 0 and 1 in two hours", prints.meet(0, 1), 2);
        CHECKS.due("27: within one hour none", prints.stones(0, 1, 1, 0), 0);
        CHECKS.due("27: no cells then", prints.stones(0, 1, 1, 1), -1);
        CHECKS.due("27: within two one", prints.stones(0, 1, 2, 0), 1);
        CHECKS.due("27: the least", prints.stones(0, 1, 2, 1), 1);
        CHECKS.due("27: coins do not matter, nor are they paid", prints.count(7), 20);
        CHECKS.due("27: alike", prints.stones(0, 0, 2, 0), -1);
        CHECKS.due("27: goer 2", prints.stones(0, 2, 2, 0), -1);
        CHECKS.due("27: goer -1", prints.stones(-1, 0, 2, 0), -1);
        CHECKS.due("27: n 0", prints.stones(0, 1, 0, 0), -1);
        CHECKS.due("27: n 21", prints.stones(0, 1, 21, 0), -1);
        CHECKS.due("27: what 2", prints.stones(0, 1, 2, 2), -1);
        CHECKS.due("27: what -1", prints.stones(0, 1, 2, -1), -1);
        PrintsGoOn same = Checks.shore("sw2h2;r00;r00;g;g");
        CHECKS.due("27: on one cell for good", same.stones(0, 1, 20, 0), -1);
        CHECKS.due("27: no cells for that", same.stones(0, 1, 20, 1), -1);
        CHECKS.due("27: n 20 is within bounds", same.stones(0, 1, 1, 0), -1);
        twoStones();
    }

    /** Both go to the middle by ways of their own: each way takes a stone. */
    private static void twoStones() {
        PrintsGoOn prints = Checks.shore("sw5h5;gx0y2b1;gx2y0b2;gx4y4b0");
        CHECKS.due("27: they meet", prints.meet(0, 1), 2);
        int howMany = prints.stones(0, 1, 8, 0);
        int cells = prints.stones(0, 1, 8, 1);
        CHECKS.due("27: by the plain way", cells, plainStones("sw5h5;gx0y2b1;gx2y0b2;gx4y4b0", 0, 1, 8));
        CHECKS.due("27: so many", howMany, cells < 0 ? -1 : cells < 100 ? 1 : 2);
        int two = 0;
        for (int n = 1; n <= 20; n++) {
            for (String shore : new String[] {"sw4h4;gx0y1b1;gx3y1b3p2", "sw6h3;gx0y0p3;gx5y0b3p2;gx2y2b0",
                    "sw3h5;gx1y0b2;gx1y4b0", "sw6h5;gx0y0b1p3;gx3y0b3p2;gx2y4b0p4", "sw3h3;gb2;gx2y2b0p3"}) {
                PrintsGoOn some = Checks.shore(shore);
                int got = some.stones(0, 1, n, 1);
                CHECKS.due("27: " + shore + " within " + n, got, plainStones(shore, 0, 1, n));
                two += some.stones(0, 1, n, 0) == 2 ? 1 : 0;
            }
        }
        CHECKS.due("27: two were needed at times", two > 0, true);
    }

    /** Lays the stones by hand on another object, and asks when the two meet. */
    private static int plainStones(String shore, int one, int other, int n) {
        PrintsGoOn prints = Checks.shore(shore);
        if (!meetWithin(prints, one, other, n)) {
            return -1;
        }
        int cells = prints.count(0);
        for (int low = 0; low < cells; low++) {
            if (prints.stone(low) != 1) {
                continue;
            }
            if (!meetWithin(prints, one, other, n)) {
                return low;
            }
            prints.undo();
        }
        for (int low = 0; low < cells; low++) {
            if (prints.stone(low) != 1) {
                continue;
            }
            for (int high = low + 1; high < cells; high++) {
                if (prints.stone(high) == 1) {
                    if (!meetWithin(prints, one, other, n)) {
                        return low * 100 + high;
                    }
                    prints.undo();
                }
            }
            prints.undo();
        }
        return -1;
    }

    private static boolean meetWithin(PrintsGoOn prints, int one, int other, int n) {
        int hours = prints.meet(one, other);
        return hours != -1 && hours <= n;
    }

    private static void fits() {
        PrintsGoOn prints = Checks.shore("sw6;gx2y1;gx0y0");
        CHECKS.due("29: all", prints.fits(0, -1), 16);
        for (int i = 0; i < 16; i++) {
            CHECKS.due("29: the " + i + "th", prints.fits(0, i), 10 * (1 + i / 4) + i % 4);
        }
        CHECKS.due("29: a 17th", prints.fits(0, 16), -1);
        CHECKS.due("29: i -2", prints.fits(0, -2), -1);
        CHECKS.due("28: goer 2", prints.seen(2, 1, 1), -1);
        CHECKS.due("28: goer -1", prints.seen(-1, 1, 1), -1);
        CHECKS.due("28: n 31", prints.seen(0, 31, 1), -1);
        CHECKS.due("28: n -1", prints.seen(0, -1, 1), -1);
        CHECKS.due("28: cell 24", prints.seen(0, 1, 24), -1);
        CHECKS.due("28: cell -1", prints.seen(0, 1, -1), -1);
        CHECKS.due("28: two to the right behind an hour", prints.seen(0, 1, 10), 1);
        CHECKS.due("29: one fits", prints.fits(0, -1), 1);
        CHECKS.due("29: pace 2, to the right", prints.fits(0, 0), 21);
        CHECKS.due("29: none behind it", prints.fits(0, 1), -1);
        CHECKS.due("29: of the other all", prints.fits(1, -1), 16);
        prints.hour();
        prints.tide(5);
        prints.stone(9);
        CHECKS.due("29: from as told, whatever came", prints.fits(0, 0), 21);
        for (int i = 2; i <= 10; i++) {
            CHECKS.due("28: how many", prints.seen(1, 0, 0), i);
        }
        CHECKS.due("28: an eleventh", prints.seen(1, 0, 0), -1);
        CHECKS.due("29: where it stopped all are", prints.fits(1, -1), 16);
        CHECKS.due("29: goer 2", prints.fits(2, -1), -1);
        CHECKS.due("29: goer -1", prints.fits(-1, -1), -1);
        PrintsGoOn gone = Checks.shore("st1;gy3;gy3");
        gone.seen(0, 30, 15);
        CHECKS.due("29: gone where it stopped, by any look and pace", gone.fits(0, -1), 16);
        PrintsGoOn alone = Checks.shore("sw3h2;gx0;gx2b3");
        alone.seen(0, 2, 2);
        CHECKS.due("29: alone it meets nobody: up it turns to the right", alone.fits(0, 0), 10);
        CHECKS.due("29: and to the right at once", alone.fits(0, 1), 11);
        PrintsGoOn law = Checks.shore("gx2y2", "y:1");
        law.seen(0, 1, 13);
        CHECKS.due("29: by the law that holds", law.fits(0, -1), 4);
    }

    private static void asking() {
        PrintsGoOn prints = Checks.shore("sw6h5;gx2y2");
        int best = -1;
        int fewest = 17;
        for (int n = 1; n <= 30; n++) {
            int most = 0;
            for (int cell = 0; cell < 30; cell++) {
                PrintsGoOn other = Checks.shore("sw6h5;gx2y2");
                other.seen(0, n, cell);
                most = Math.max(most, other.fits(0, -1));
            }
            if (most < fewest) {
                fewest = most;
                best = n;
            }
        }
        CHECKS.due("30: ask", prints.ask(0), best);
        prints.seen(0, 0, 0);
        CHECKS.due("30: nothing fits", prints.ask(0), -1);
        CHECKS.due("30: goer 1", prints.ask(1), -1);
        CHECKS.due("30: goer -1", prints.ask(-1), -1);
        PrintsGoOn one = Checks.shore("sw6h5;gx2y2");
        one.seen(0, 1, 16);
        CHECKS.due("30: of several the least", one.ask(0), 1);
        PrintsGoOn last = Checks.shore("g", "y:t=5&n=0?1;y:t=5&n=1&p=1?1;y:0");
        CHECKS.due("30: pace 1 goes on in the 30th hour alone", last.ask(0), 30);
    }

    private static void games() {
        PrintsGoOn prints = Checks.shore("sw6h5;gx0y0;gx5y4p2;gx0y2");
        CHECKS.due("31: five to the right, one down", prints.game(0, 1, 1, 3, 0), 6);
        CHECKS.due("31: at pace 2 the cells behind hours alone", prints.game(0, 1, 1, 3, 1), 6);
        CHECKS.due("31: up, so it turns: the same", prints.game(0, 1, 0, 3, 0), 6);
        PrintsGoOn hotel = Checks.shore("sw6h5;r003;gx0y0;gx5y4b3");
        CHECKS.due("31: 1 and the hotel, once", hotel.game(0, 1, 1, 3, 0), 2);
        PrintsGoOn meeting = Checks.shore("sw6h5;gx0y0;gx2y0");
        CHECKS.due("31: they meet at 1, then 2 and 3 at the end", meeting.game(0, 1, 1, 3, 0), 3 - 3);
        CHECKS.due("31: looks stay as they are", prints.goer(1, 1), 1);
        PrintsGoOn under = Checks.shore("sw6h5t1;gx0y4;gx0y0");
        CHECKS.due("31: gone on its own cell", under.game(0, 1, 0, 1, 0), 0);
        CHECKS.due("31: alike", prints.game(1, 1, 0, 0, 0), HIDDEN);
        CHECKS.due("31: goer 3", prints.game(0, 3, 0, 0, 0), HIDDEN);
        CHECKS.due("31: goer -1", prints.game(-1, 0, 0, 0, 0), HIDDEN);
        CHECKS.due("31: x 4", prints.game(0, 1, 4, 0, 0), HIDDEN);
        CHECKS.due("31: y -1", prints.game(0, 1, 0, -1, 0), HIDDEN);
        CHECKS.due("31: what 2", prints.game(0, 1, 0, 0, 2), HIDDEN);
        prints.sweep(0);
        CHECKS.due("31: one does not go", prints.game(0, 1, 0, 0, 0), HIDDEN);
        CHECKS.due("31: the other does not", prints.game(1, 0, 0, 0, 0), HIDDEN);
    }

    private static void rests() {
        PrintsGoOn prints = Checks.shore("sw6h5;gx0y0;gx2y0;gx5y4p3");
        int found = 0;
        for (int x = 0; x < 4; x++) {
            for (int y = 0; y < 4; y++) {
                boolean rest = true;
                for (int z = 0; z < 4; z++) {
                    rest &= prints.game(0, 1, z, y, 0) <= prints.game(0, 1, x, y, 0);
                    rest &= prints.game(0, 1, x, z, 1) <= prints.game(0, 1, x, y, 1);
                }
                if (rest) {
                    CHECKS.due("32: the " + found + "th", prints.rests(0, 1, found), 10 * x + y);
                    found++;
                }
            }
        }
        CHECKS.due("32: how many", prints.rests(0, 1, -1), found);
        CHECKS.due("32: there are some", found > 0, true);
        CHECKS.due("32: no such one", prints.rests(0, 1, found), -1);
        CHECKS.due("32: i -2", prints.rests(0, 1, -2), -1);
        CHECKS.due("32: alike", prints.rests(0, 0, -1), -1);
        CHECKS.due("32: goer 3", prints.rests(0, 3, -1), -1);
        CHECKS.due("32: goer -1", prints.rests(-1, 0, -1), -1);
        prints.sweep(0);
        CHECKS.due("32: one does not go", prints.rests(0, 1, -1), -1);
        PrintsGoOn law = Checks.shore("sw6h5;gx2y2;gx3y3", "y:0");
        CHECKS.due("32: where looks do not matter all rest", law.rests(0, 1, -1), 16);
    }

    private static void odds() {
        PrintsGoOn prints = Checks.shore("sw6h5;gx2y2b1;gx5y4");
        CHECKS.due("33: now", prints.odds(0, 14, 0, 50), 1000000000);
        CHECKS.due("33: elsewhere", prints.odds(0, 15, 0, 50), 0);
        CHECKS.due("33: as it looks", prints.odds(0, 15, 1, 30), 700000000);
        CHECKS.due("33: turned", prints.odds(0, 20, 1, 30), 300000000);
        CHECKS.due("33: right, then down or down, then left", prints.odds(0, 21, 2, 30), 210000000);
        CHECKS.due("33: down twice, turned once", prints.odds(0, 26, 2, 30), 210000000);
        CHECKS.due("33: down, turned, then left, turned", prints.odds(0, 19, 2, 30), 90000000);
        CHECKS.due("33: chance 0", prints.odds(0, 17, 3, 0), 1000000000);
        CHECKS.due("33: chance 100: right round", prints.odds(0, 14, 4, 100), 1000000000);
        CHECKS.due("33: n 7", prints.odds(0, 0, 7, 0), -1);
        CHECKS.due("33: n -1", prints.odds(0, 0, -1, 0), -1);
        CHECKS.due("33: chance 101", prints.odds(0, 0, 1, 101), -1);
        CHECKS.due("33: chance -1", prints.odds(0, 0, 1, -1), -1);
        CHECKS.due("33: cell 30", prints.odds(0, 30, 1, 1), -1);
        CHECKS.due("33: goer 2", prints.odds(2, 0, 1, 1), -1);
        CHECKS.due("33: goer -1", prints.odds(-1, 0, 1, 1), -1);
        prints.sweep(14);
        CHECKS.due("33: gone, where it was", prints.odds(0, 14, 6, 37), 1000000000);
    }

    /** By the law it stays; what is cut at the fifth and sixth turn is all that is lost. */
    private static void oddsThatAreCut() {
        PrintsGoOn prints = Checks.shore("sw6h5;gx2y0b0", "y:0");
        CHECKS.due("33: all parts come together", prints.odds(0, 2, 6, 33), 1000000000);
        PrintsGoOn turns = Checks.shore("sw6h5;gx0y0b3;gx5y4", "y:b=0?2;y:b");
        long parts = 1000000000L * 13 / 100;
        CHECKS.due("33: one turn from the left is up, by the law down", turns.odds(0, 6, 1, 13), parts);
        long rest = 1000000000L;
        for (int i = 0; i < 6; i++) {
            rest -= rest * 13 / 100;
        }
        CHECKS.due("33: never turned, cut each time", turns.odds(0, 0, 6, 13), rest);
    }

    private static void next() {
        PrintsGoOn prints = Checks.shore("sw3h2;r01;r203;gx0b1p4;gx2b2;gx2y0b0;gx0y1");
        CHECKS.due("35: down, into water", prints.ahead(0), 3);
        CHECKS.due("35: into a hotel", prints.ahead(1), 5);
        CHECKS.due("35: up can't be, right neither: it stays", prints.ahead(2), 2);
        CHECKS.due("35: it is under", prints.ahead(3), -1);
        CHECKS.due("35: goer 4", prints.ahead(4), -1);
        CHECKS.due("35: goer -1", prints.ahead(-1), -1);
        prints.sweep(0);
        CHECKS.due("35: it does not go", prints.ahead(0), -1);
        CHECKS.due("35: nothing moved", prints.goer(1, 0), 2);
    }
}
