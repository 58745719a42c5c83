/** What the document says of the edges of what is asked ahead of time: Terms 3, and promises 19 to 36. */
public final class EdgesAheadTest {
    private static final int NONE = PrintsGoOn.NONE;
    private static final int HIDDEN = PrintsGoOn.HIDDEN;
    private static final int[] OUT = {Integer.MIN_VALUE, -2, -1};
    /** It goes to and fro between 0 and 1 of a shore of 2 by 2 until it went so many CELLS, then down. */
    private static final String TO_AND_FRO = "y:p=2?2;y:n=%d?2;y:n/2*2=n?1;y:3";
    private static final Edges EDGES = new Edges("EdgesAheadTest");

    public static void main(String[] args) {
        behindTheLastHour();
        steps();
        runs();
        doing();
        where();
        meet();
        ends();
        again();
        way();
        stones();
        stonesFromZero();
        stonesThatDoNot();
        stonesRefused();
        seen();
        fits();
        ask();
        game();
        gameRefused();
        rests();
        odds();
        oddsThatAreCut();
        shares();
        farAndSwift();
        dryAndParts();
        crowds();
        facing();
        next();
        theLastOfFour();
        EDGES.end();
    }

    private static void behindTheLastHour() {
        EDGES.says("(Apart, from as it is; HOURS go on behind 9,999, but not in RUN.)");
        PrintsGoOn prints = Checks.shore("sw6;r;r000003;gx0;gx4b3;gx4y1");
        prints.children(0);
        for (int i = 0; i < 333; i++) {
            prints.years(30, i);
        }
        prints.years(9, 0);
        prints.tide(0);
        for (int goer = 0; goer < 3; goer++) {
            prints.anew(goer, goer == 1 ? 3 : 1);
        }
        EDGES.due("the last", prints.count(6), 9999);
        String before = State.of(prints);
        EDGES.due("at 3 hours, for they met and turned", prints.where(0, 3), 1);
        EDGES.due("meet", prints.meet(0, 1), 2);
        EDGES.due("ends", prints.ends(2, 0), 1);
        EDGES.due("how", prints.ends(2, 1), 1);
        EDGES.due("game", prints.game(0, 1, 1, 3, 0), prints.game(0, 1, 1, 3, 0));
        EDGES.due("odds", prints.odds(0, 6, 1, 40), 400000000);
        EDGES.due("stones", prints.stones(0, 1, 2, 1), 1);
        EDGES.due("next", prints.ahead(0), 1);
        EDGES.due("asking changes nothing", State.of(prints), before);
        Checks.tell(prints, 2, "t1;h");
        EDGES.due("an hour can't be in a run", prints.run(0, 0), 1);
        EDGES.due("nor by doing", prints.perform(0), 1);
        PrintsGoOn hours = Checks.shore("sw2h2;g", "y:t=15?2;y:t=16?1;y:0");
        hours.children(0);
        for (int i = 0; i < 333; i++) {
            hours.years(30, i);
        }
        hours.years(9, 0);
        hours.tide(0);
        hours.tide(1);
        hours.tide(0);
        hours.anew(0, 1);
        EDGES.due("hour 9999 is 15 modulo 24", hours.where(0, 1), 2);
        EDGES.due("hour 10000 is 16", hours.where(0, 2), 3);
        EDGES.due("hour 10001 is 17", hours.where(0, 3), 1);
    }

    private static void steps() {
        EDGES.says("1 its digit (of s: the number of two; NONE), 2 the second one (of g alone; else NONE). HIDDEN: no such ones.");
        PrintsGoOn prints = new PrintsGoOn();
        EDGES.refused("none yet", prints, () -> prints.step(0, 0, 0), HIDDEN);
        Checks.tell(prints, 2, "h;g98;t7;s09;s99;s00;g00;t0;h;h;h;h;h;h;h;g10");
        int[][] due = {{0, NONE, NONE}, {1, 9, 8}, {2, 7, NONE}, {3, 9, NONE}, {3, 99, NONE}, {3, 0, NONE}, {1, 0, 0},
            {2, 0, NONE}};
        for (int i = 0; i < due.length; i++) {
            for (int what = 0; what < 3; what++) {
                EDGES.due("step(0, " + i + ", " + what + ")", prints.step(0, i, what), due[i][what]);
            }
        }
        EDGES.due("the 16th", prints.step(0, 15, 1), 1);
        EDGES.due("its second digit", prints.step(0, 15, 2), 0);
        EDGES.refused("a 17th", prints, () -> prints.step(0, 16, 0), HIDDEN);
        EDGES.refused("what 3", prints, () -> prints.step(0, 0, 3), HIDDEN);
        EDGES.refused("evening 1", prints, () -> prints.step(1, 0, 0), HIDDEN);
        for (int out : OUT) {
            EDGES.refused("evening " + out, prints, () -> prints.step(out, 0, 0), HIDDEN);
            EDGES.refused("i " + out, prints, () -> prints.step(0, out, 0), HIDDEN);
            EDGES.refused("what " + out, prints, () -> prints.step(0, 0, out), HIDDEN);
        }
        Checks.tell(prints, 2, "h");
        EDGES.due("the first of one", prints.step(1, 0, 0), 0);
        EDGES.refused("the second of one", prints, () -> prints.step(1, 1, 0), HIDDEN);
    }

    private static void run(String shore, String evening, int steps, int meetings) {
        PrintsGoOn prints = Checks.shore(shore);
        Checks.tell(prints, 2, evening);
        EDGES.refused(evening + ": steps", prints, () -> prints.run(0, 0), steps);
        EDGES.refused(evening + ": meetings", prints, () -> prints.run(0, 1), meetings);
        int done = prints.perform(0);
        EDGES.due(evening + ": done", done, steps == NONE ? evening.split(";").length : steps);
        EDGES.due(evening + ": acts", prints.count(13), done);
        EDGES.due(evening + ": meetings in all", prints.count(9), meetings);
    }

    private static void runs() {
        EDGES.says("behind how many STEPS the first is that can't be; how many MEETINGS there are in its HOURS");
        run("g", "t0", 0, 0);
        run("g", "t1", NONE, 0);
        run("g", "h;h;h;h;h;h;h;h;h;h;h;h;h;h;h;s19", 15, 0);
        run("g", "h;h;h;h;h;h;h;h;h;h;h;h;h;h;h;h", NONE, 0);
        run("g", "t1;t0;t1;t1;t0", 3, 0);
        run("g", "t5;t6", 1, 0);
        run("g", "g00;g10", 1, 0);
        run("g", "g03;g04", 1, 0);
        run("sc6;g", "g00;g00;g00", 2, 0);
        run("sc2;g", "g00", 0, 0);
        run("sc3;g", "g00", NONE, 0);
        run("sc1;g;gx1", "s00;s01", 1, 0);
        run("sc0;g", "s00", 0, 0);
        run("g", "s00;s00", 1, 0);
        run("sw2h2;gx1y1", "s03", NONE, 0);
        run("sw2h2;gx1y1", "s04", 0, 0);
        run("r1;g", "h;g00", 1, 0);
        run("sw6;g;g;g", "h", NONE, 3);
        run("sw6;g;g;g", "h;s01;h;t0;h", 3, 3);
        run("sw6;g;g;g", "h;h;t0;h", 2, 6);
        run("sw6;g;gx4b3", "h;h;s02;h", NONE, 1);
        PrintsGoOn prints = Checks.shore("g");
        EDGES.says("RUN: behind how many (0; NONE: all can be), MEETINGS (1). HIDDEN: no such ones, no SHORE.");
        EDGES.refused("no evening", prints, () -> prints.run(0, 0), HIDDEN);
        Checks.tell(prints, 2, "h");
        EDGES.refused("evening 1", prints, () -> prints.run(1, 0), HIDDEN);
        EDGES.refused("what 2", prints, () -> prints.run(0, 2), HIDDEN);
        for (int out : OUT) {
            EDGES.refused("evening " + out, prints, () -> prints.run(out, 0), HIDDEN);
            EDGES.refused("what " + out, prints, () -> prints.run(0, out), HIDDEN);
        }
        PrintsGoOn none = new PrintsGoOn();
        Checks.tell(none, 2, "h");
        EDGES.refused("no shore", none, () -> none.run(0, 0), HIDDEN);
        EDGES.refused("no shore, meetings", none, () -> none.run(0, 1), HIDDEN);
    }

    private static void doing() {
        EDGES.says("DO: its STEPS as ACTS, up to there.");
        PrintsGoOn prints = Checks.shore("sh5;g;gx4y4b0");
        Checks.tell(prints, 2, "t1;t2;t3;t4;t5;t0;t1;t2;t3;t4;t5;t0;t1;t2;t3;t4");
        EDGES.due("sixteen", prints.perform(0), 16);
        EDGES.due("sixteen acts", prints.count(13), 16);
        for (int i = 15; i >= 1; i--) {
            EDGES.due("one by one", prints.undo(), i);
            EDGES.due("the tide ahead of step " + i, prints.count(8), i % 6);
        }
        prints.undo();
        Checks.tell(prints, 2, "t0;t1");
        EDGES.refused("the first can't be", prints, () -> prints.perform(1), 0);
        prints.tide(5);
        EDGES.due("two", prints.perform(1), 2);
        for (int i = 0; i < 3; i++) {
            prints.tide(0);
            EDGES.due("sixteen again", prints.perform(0), 16);
        }
        EDGES.due("40 acts at most", prints.count(13), 40);
        EDGES.says("DO: how many STEPS were done. NONE: no such EVENING, no SHORE.");
        EDGES.refused("evening 2", prints, () -> prints.perform(2), NONE);
        for (int out : OUT) {
            EDGES.refused("evening " + out, prints, () -> prints.perform(out), NONE);
        }
        PrintsGoOn none = new PrintsGoOn();
        EDGES.refused("neither", none, () -> none.perform(0), NONE);
        Checks.tell(none, 2, "h");
        EDGES.refused("no shore", none, () -> none.perform(0), NONE);
    }

    private static void where() {
        EDGES.says("AT n HOURS (0 .. 99): the CELL of a GOER's PRINTS (GONE, IN: where it was so).");
        PrintsGoOn prints = Checks.shore("sw2h2;g");
        EDGES.due("0: now", prints.where(0, 0), 0);
        EDGES.due("1", prints.where(0, 1), 1);
        EDGES.due("98", prints.where(0, 98), 3);
        EDGES.due("99", prints.where(0, 99), 2);
        EDGES.refused("100", prints, () -> prints.where(0, 100), NONE);
        EDGES.refused("goer 1", prints, () -> prints.where(1, 0), NONE);
        for (int out : OUT) {
            EDGES.refused("n " + out, prints, () -> prints.where(0, out), NONE);
            EDGES.refused("goer " + out, prints, () -> prints.where(out, 0), NONE);
        }
        EDGES.refused("no shore", new PrintsGoOn(), () -> new PrintsGoOn().where(0, 0), NONE);
        PrintsGoOn ends = Checks.shore("r00203;gb1;gx4y1b0;gx2y3b2");
        for (int n = 2; n <= 99; n += 97) {
            EDGES.due("in the water behind " + n, ends.where(0, n), 2);
            EDGES.due("in a hotel behind " + n, ends.where(1, n), 4);
        }
        ends.sweep(17);
        EDGES.due("swept: there", ends.where(2, 50), 17);
    }

    private static void meet() {
        EDGES.says("MEET of two: in how many HOURS (1 .. 99) they MEET first.");
        PrintsGoOn same = Checks.shore("sw2h2;g;g");
        EDGES.due("on one cell now and in an hour", same.meet(0, 1), 1);
        PrintsGoOn parting = Checks.shore("sw2h2;gb1;gb2");
        EDGES.due("on one cell now alone", parting.meet(0, 1), NONE);
        PrintsGoOn last = Checks.shore("sw2h2;g;gy1p2", String.format(TO_AND_FRO, 98));
        EDGES.due("99", last.meet(0, 1), 99);
        PrintsGoOn late = Checks.shore("sw2h2;g;gx1y1p2", String.format(TO_AND_FRO, 99));
        EDGES.due("100", late.meet(0, 1), NONE);
        late.hour();
        EDGES.due("99 behind an hour", late.meet(0, 1), 99);
        PrintsGoOn hotel = Checks.shore("r03;g;gx2b3");
        EDGES.due("in one hotel they do not go", hotel.meet(0, 1), NONE);
        PrintsGoOn water = Checks.shore("r02;g;gx2b3");
        EDGES.due("nor in the water", water.meet(0, 1), NONE);
        PrintsGoOn third = Checks.shore("sw6;g;gx4b3;gx2y2b0");
        EDGES.due("three at once", third.meet(0, 2), 2);
        EDGES.due("the other two", third.meet(1, 2), 2);
        EDGES.says("MEET. NONE: not within 99, no such GOERS, alike.");
        EDGES.refused("alike", same, () -> same.meet(1, 1), NONE);
        EDGES.refused("goer 2", same, () -> same.meet(0, 2), NONE);
        EDGES.refused("goer 2 first", same, () -> same.meet(2, 0), NONE);
        for (int out : OUT) {
            EDGES.refused("first " + out, same, () -> same.meet(out, 0), NONE);
            EDGES.refused("second " + out, same, () -> same.meet(0, out), NONE);
        }
        EDGES.refused("no shore", new PrintsGoOn(), () -> new PrintsGoOn().meet(0, 1), NONE);
    }

    private static void ends() {
        EDGES.says("ENDS of a GOER: in how many HOURS (0 .. 99) it does not GO first; how (1 IN, 2 GONE).");
        PrintsGoOn swept = Checks.shore("sw2h2;g");
        EDGES.due("never", swept.ends(0, 0), NONE);
        EDGES.due("never, so not how", swept.ends(0, 1), NONE);
        swept.sweep(0);
        EDGES.due("0", swept.ends(0, 0), 0);
        EDGES.due("gone", swept.ends(0, 1), 2);
        PrintsGoOn in = Checks.shore("r03;g");
        EDGES.due("1", in.ends(0, 0), 1);
        in.hour();
        EDGES.due("in now", in.ends(0, 0), 0);
        EDGES.due("in", in.ends(0, 1), 1);
        PrintsGoOn hotel = Checks.shore("sw2h2;r00;r30;g", String.format(TO_AND_FRO, 98));
        EDGES.due("99", hotel.ends(0, 0), 99);
        EDGES.due("in behind 99", hotel.ends(0, 1), 1);
        PrintsGoOn water = Checks.shore("sw2h2;r00;r20;g", String.format(TO_AND_FRO, 98));
        EDGES.due("gone behind 99", water.ends(0, 1), 2);
        PrintsGoOn late = Checks.shore("sw2h2;r00;r03;g", String.format(TO_AND_FRO, 99));
        EDGES.due("100", late.ends(0, 0), NONE);
        EDGES.due("100, how", late.ends(0, 1), NONE);
        late.hour();
        EDGES.due("99 behind an hour", late.ends(0, 0), 99);
        EDGES.refused("what 2", swept, () -> swept.ends(0, 2), NONE);
        EDGES.refused("goer 1", swept, () -> swept.ends(1, 0), NONE);
        for (int out : OUT) {
            EDGES.refused("goer " + out, swept, () -> swept.ends(out, 0), NONE);
            EDGES.refused("what " + out, swept, () -> swept.ends(0, out), NONE);
        }
        EDGES.refused("no shore", new PrintsGoOn(), () -> new PrintsGoOn().ends(0, 0), NONE);
    }

    private static void again() {
        EDGES.says("AGAIN of a GOER: the fewest HOURS (1 .. 99) behind which it GOES, is on the same CELL and LOOKS the same way as now.");
        PrintsGoOn stays = Checks.shore("gb0", "y:0");
        EDGES.due("1", stays.again(0), 1);
        PrintsGoOn turned = Checks.shore("gb1", "y:0");
        EDGES.due("the cell alone", turned.again(0), NONE);
        PrintsGoOn along = Checks.shore("sw2h2;gb1", "y:1");
        EDGES.due("the look alone", along.again(0), NONE);
        PrintsGoOn last = Checks.shore("sw2h2;r00;r10;gb2", "y:n=98?2;y:n/2*2=n?1;y:3");
        EDGES.due("99", last.again(0), 99);
        PrintsGoOn late = Checks.shore("sw2h2;r00;r10;gb2", "y:n=0&t=0?0;y:n=98?2;y:n/2*2=n?1;y:3");
        EDGES.due("100", late.again(0), NONE);
        for (int i = 0; i < 100; i++) {
            late.hour();
        }
        EDGES.due("for behind 100 it is there", late.goer(0, 0), 0);
        EDGES.due("and looks down", late.goer(0, 1), 2);
        PrintsGoOn hotel = Checks.shore("sw2h2;r3;gb0");
        hotel.hour();
        EDGES.due("back in a hotel it does not go", hotel.again(0), NONE);
        PrintsGoOn start = Checks.shore("sw2h2;r3;gb0", "y:n=0?1;y:a=1?b+1;y:b");
        EDGES.due("it begins at a hotel and comes back to it", start.where(0, 4), 0);
        EDGES.due("but is in", start.again(0), NONE);
        PrintsGoOn under = Checks.shore("r2;gb0", "y:0");
        EDGES.due("it goes now, but is under", under.again(0), NONE);
        EDGES.says("AGAIN. NONE: not within 99, it does not GO now, no such GOER.");
        stays.sweep(0);
        EDGES.refused("it does not go", stays, () -> stays.again(0), NONE);
        EDGES.refused("goer 1", stays, () -> stays.again(1), NONE);
        for (int out : OUT) {
            EDGES.refused("goer " + out, along, () -> along.again(out), NONE);
        }
        EDGES.refused("no shore", new PrintsGoOn(), () -> new PrintsGoOn().again(0), NONE);
    }

    private static void way() {
        EDGES.says("WAY from one CELL to another: the fewest steps (to a CELL across or down) by CELLS that are no rock and not UNDER (both, too).");
        PrintsGoOn prints = Checks.shore("sw3h3t1;r012;r031;r000;g");
        EDGES.due("to itself", prints.way(0, 0), 0);
        EDGES.due("down", prints.way(0, 3), 1);
        EDGES.due("up", prints.way(3, 0), 1);
        EDGES.due("right, to a hotel", prints.way(3, 4), 1);
        EDGES.due("left", prints.way(4, 3), 1);
        EDGES.due("by a corner", prints.way(0, 4), 2);
        EDGES.due("a rock to itself", prints.way(1, 1), NONE);
        EDGES.due("water to itself", prints.way(2, 2), NONE);
        EDGES.due("what is under to itself", prints.way(6, 6), NONE);
        EDGES.due("from a rock", prints.way(1, 0), NONE);
        EDGES.due("to a rock", prints.way(0, 1), NONE);
        EDGES.due("from under", prints.way(6, 3), NONE);
        EDGES.due("to under", prints.way(3, 6), NONE);
        PrintsGoOn round = Checks.shore("sw6h5;r000000;r111110;r000000;r011111;r000000;g");
        EDGES.due("the longest here", round.way(0, 29), 19);
        EDGES.due("and back", round.way(29, 0), 19);
        EDGES.due("the end of a row is not beside the next row", round.way(17, 18), 6);
        PrintsGoOn closed = Checks.shore("sw3h3;r010;r111;g");
        EDGES.due("no way", closed.way(0, 2), NONE);
        EDGES.says("WAY. NONE: no way, no such CELLS.");
        EDGES.refused("cell 9 of 9", prints, () -> prints.way(0, 9), NONE);
        EDGES.refused("from cell 9 of 9", prints, () -> prints.way(9, 0), NONE);
        for (int out : OUT) {
            EDGES.refused("to " + out, prints, () -> prints.way(0, out), NONE);
            EDGES.refused("from " + out, prints, () -> prints.way(out, 0), NONE);
        }
        EDGES.refused("no shore", new PrintsGoOn(), () -> new PrintsGoOn().way(0, 0), NONE);
    }

    private static void stones(PrintsGoOn prints, int n, int howMany, int cells) {
        EDGES.due("within " + n + ", how many", prints.stones(0, 1, n, 0), howMany);
        EDGES.due("within " + n + ", the cells", prints.stones(0, 1, n, 1), cells);
        EDGES.due("the other way round", prints.stones(1, 0, n, 1), cells);
    }

    private static void stones() {
        EDGES.says("STONES for two and n (1 .. 20): the fewest of at most two CELLS of sand without PRINTS that GO there");
        PrintsGoOn last = Checks.shore("sw2h2;g;gx1y1p2", String.format(TO_AND_FRO, 19));
        EDGES.due("they meet in 20", last.meet(0, 1), 20);
        stones(last, 19, 0, NONE);
        stones(last, 20, 1, 1);
        PrintsGoOn first = Checks.shore("sw3h2;g;gx2b3");
        EDGES.due("they meet in 1", first.meet(0, 1), 1);
        stones(first, 1, 1, 1);
        PrintsGoOn later = Checks.shore("sw2h2;g;gy1p2", String.format(TO_AND_FRO, 20));
        EDGES.due("they meet in 21", later.meet(0, 1), 21);
        stones(later, 20, 0, NONE);
        EDGES.says("(of several the least number so told: 100 times the lower one and the other; of one its number)");
        stones(Checks.shore("sw5h2;r;r11111;g;gx4b3", "y:b"), 2, 1, 1);
        stones(Checks.shore("sw3h2;r001;r101;gx1b3p1;gx1y1b0p2", "y:p=2?2;y:n=0?3;y:b=3&a=1?1;y:2"), 3, 1, 0);
        stones(Checks.shore("sw5h2;r00000;r11111;gb1;gx4b3;gx1b1", "y:b"), 2, 1, 2);
        stones(Checks.shore("sw4h3;r1;gy1b1;gx3y2b3p4", "y:p=1?b;y:n<1?0;y:1"), 20, 1, 5);
        String law = "y:p=2?2;y:p=3?3;y:p=4?1;y:b=1&a=1?2;y:b=2&a=1?1;y:b";
        PrintsGoOn two = Checks.shore("sw3h2c0;g;gx2y1p2", law);
        EDGES.due("they meet in 3, by 1, 2 or by 3, 4", two.meet(0, 1), 3);
        stones(two, 2, 0, NONE);
        stones(two, 3, 2, 103);
        stones(two, 20, 2, 103);
        stones(Checks.shore("sw3h2;g;gx2y1p2;gx1p3", law), 3, 2, 204);
        PrintsGoOn gone = Checks.shore("sw3h2;g;gx2y1p2;gx1p3", law);
        gone.sweep(1);
        stones(gone, 3, 2, 103);
    }

    /** One lies where nobody would look but for the other one, and the lower one is cell 0. */
    private static void stonesFromZero() {
        EDGES.says("100 times the lower one and the other; of one its number");
        String law = "y:p=2?1;y:p=3?3;y:n=0&a=1?2;y:n=0?b;y:n=1?1;y:r=1?0;y:2";
        PrintsGoOn prints = Checks.shore("sw2h3;gy1b0;gx1y1p2;gx1p3", law);
        EDGES.due("by 0 and 1 they meet in 3", prints.meet(0, 1), 3);
        stones(prints, 3, 2, 4);
        prints.stone(0);
        EDGES.due("else by 4 and 5", prints.meet(0, 1), 3);
        stones(prints, 3, 1, 4);
    }

    private static void stonesThatDoNot() {
        EDGES.says("which, were they rock, would keep these two from MEETING within n HOURS: how many; the CELLS");
        String law = "y:p=2?2;y:p=3?3;y:p=4?1;y:b=1&a=1?2;y:b=2&a=1?1;y:b";
        stones(Checks.shore("sw3h2;g;gx2y1p2;gx1p3;gx1y1p4", law), 3, NONE, NONE);
        stones(Checks.shore("sw2h2;g;g"), 20, NONE, NONE);
        stones(Checks.shore("sw2h2;g;gx1y1b3"), 20, 0, NONE);
        stones(Checks.shore("sw4h2;r0330;r1111;g;gx3b3"), 20, 0, NONE);
        PrintsGoOn gone = Checks.shore("sw3h2;g;gx2b3");
        gone.sweep(2);
        stones(gone, 20, 0, NONE);
        PrintsGoOn known = Checks.shore("sw3h2c0;g;gx2b3");
        EDGES.refused("it is not done", known, () -> known.stones(0, 1, 5, 0), known.stones(0, 1, 5, 0));
    }

    private static void stonesRefused() {
        EDGES.says("STONES: how many (0), the CELLS (1; none: NONE). NONE: by none, no such GOERS, alike, out of bounds.");
        PrintsGoOn prints = Checks.shore("sw3h2;g;gx2b3");
        EDGES.refused("alike", prints, () -> prints.stones(1, 1, 1, 0), NONE);
        EDGES.refused("goer 2", prints, () -> prints.stones(0, 2, 1, 0), NONE);
        EDGES.refused("goer 2 first", prints, () -> prints.stones(2, 0, 1, 0), NONE);
        EDGES.refused("n 0", prints, () -> prints.stones(0, 1, 0, 0), NONE);
        EDGES.refused("n 21", prints, () -> prints.stones(0, 1, 21, 0), NONE);
        EDGES.refused("what 2", prints, () -> prints.stones(0, 1, 1, 2), NONE);
        for (int out : OUT) {
            EDGES.refused("first " + out, prints, () -> prints.stones(out, 1, 1, 0), NONE);
            EDGES.refused("second " + out, prints, () -> prints.stones(0, out, 1, 0), NONE);
            EDGES.refused("n " + out, prints, () -> prints.stones(0, 1, out, 0), NONE);
            EDGES.refused("what " + out, prints, () -> prints.stones(0, 1, 1, out), NONE);
        }
        EDGES.refused("no shore", new PrintsGoOn(), () -> new PrintsGoOn().stones(0, 1, 1, 0), NONE);
    }

    private static void seen() {
        EDGES.says("SEEN (10 at most): a GOER's PRINTS, alone on the SHORE, from as told (HOUR 0), were at a CELL behind n (0 .. 30) HOURS (GONE, IN: where it was so).");
        PrintsGoOn prints = Checks.shore("sw2h2;g;gx1");
        EDGES.due("n 0", prints.seen(0, 0, 0), 1);
        EDGES.due("n 30", prints.seen(0, 30, 3), 2);
        EDGES.refused("n 31", prints, () -> prints.seen(0, 31, 0), NONE);
        EDGES.refused("cell 4 of 4", prints, () -> prints.seen(0, 1, 4), NONE);
        EDGES.refused("goer 2", prints, () -> prints.seen(2, 1, 0), NONE);
        for (int out : OUT) {
            EDGES.refused("goer " + out, prints, () -> prints.seen(out, 1, 0), NONE);
            EDGES.refused("n " + out, prints, () -> prints.seen(0, out, 0), NONE);
            EDGES.refused("cell " + out, prints, () -> prints.seen(0, 1, out), NONE);
        }
        for (int i = 3; i <= 10; i++) {
            EDGES.due("the " + i + "th", prints.seen(1, 0, 1), i);
        }
        EDGES.refused("an eleventh", prints, () -> prints.seen(1, 0, 1), NONE);
        EDGES.refused("of another goer, too", prints, () -> prints.seen(0, 0, 0), NONE);
        EDGES.due("ten", prints.count(11), 10);
        EDGES.due("no act", prints.count(13), 0);
        EDGES.refused("no shore", new PrintsGoOn(), () -> new PrintsGoOn().seen(0, 0, 0), NONE);
        PrintsGoOn alone = Checks.shore("sw3h2;g;gx2b3");
        alone.seen(0, 2, 2);
        EDGES.due("it meets nobody, so it is on 2: up or right, by 1, or by 4 once round", alone.fits(0, -1), 4);
        EDGES.due("the first", alone.fits(0, 0), 10);
        EDGES.due("the last", alone.fits(0, 3), 41);
        PrintsGoOn told = Checks.shore("sw3h2;g", "y:t=0?1;y:2");
        told.hour();
        told.hour();
        told.stone(1);
        told.tide(5);
        told.seen(0, 1, 1);
        EDGES.due("hour 0, sand and no tide as told: pace 1", told.fits(0, -1), 4);
        PrintsGoOn in = Checks.shore("r03;g");
        in.hour();
        in.seen(0, 30, 1);
        EDGES.due("in a hotel it stays, and all come there", in.fits(0, -1), 16);
        in.seen(0, 1, 1);
        EDGES.due("in the first hour: up, right, and left but by pace 1", in.fits(0, -1), 11);
        PrintsGoOn gone = Checks.shore("r2;g;gx1");
        gone.seen(0, 30, 0);
        EDGES.due("gone at once: all", gone.fits(0, -1), 16);
    }

    private static void fits() {
        EDGES.says("FITS of a GOER: which way it may have LOOKED and at what PACE (10 times PACE and the way; all else as told) so that all SEEN of it is so: how many, the i-th (rising).");
        PrintsGoOn prints = Checks.shore("sw6h5;gx2y2;gx3y3");
        EDGES.due("nothing seen: all", prints.fits(0, -1), 16);
        EDGES.due("the first", prints.fits(0, 0), 10);
        EDGES.due("the last", prints.fits(0, 15), 43);
        EDGES.refused("one further", prints, () -> prints.fits(0, 16), NONE);
        EDGES.refused("-2", prints, () -> prints.fits(0, -2), NONE);
        EDGES.refused("the least", prints, () -> prints.fits(0, Integer.MIN_VALUE), NONE);
        EDGES.refused("the most", prints, () -> prints.fits(0, Integer.MAX_VALUE), NONE);
        EDGES.refused("goer 2", prints, () -> prints.fits(2, -1), NONE);
        for (int out : OUT) {
            EDGES.refused("goer " + out, prints, () -> prints.fits(out, -1), NONE);
        }
        EDGES.refused("no shore", new PrintsGoOn(), () -> new PrintsGoOn().fits(0, -1), NONE);
        prints.seen(0, 1, 2);
        EDGES.due("two up", prints.fits(0, 0), 20);
        EDGES.due("that alone", prints.fits(0, -1), 1);
        EDGES.refused("the second of one", prints, () -> prints.fits(0, 1), NONE);
        EDGES.due("of the other one all", prints.fits(1, -1), 16);
        prints.seen(0, 1, 3);
        EDGES.due("none", prints.fits(0, -1), 0);
        EDGES.refused("the first of none", prints, () -> prints.fits(0, 0), NONE);
        for (int n = 0; n <= 30; n += 15) {
            int[] told = new int[16];
            PrintsGoOn some = Checks.shore("sw6h5;r000100;gx2y2");
            for (int i = 0; i < 16; i++) {
                told[i] = Checks.shore("sw6h5;r000100;gx2y2b" + i % 4 + "p" + (i / 4 + 1)).where(0, n);
            }
            some.seen(0, n, told[7]);
            int fitting = 0;
            for (int i = 0; i < 16; i++) {
                if (told[i] == told[7]) {
                    EDGES.due("the " + fitting + "th behind " + n, some.fits(0, fitting), 10 * (i / 4 + 1) + i % 4);
                    fitting++;
                }
            }
            EDGES.due("how many behind " + n, some.fits(0, -1), fitting);
        }
    }

    private static void ask() {
        EDGES.says("ASK of a GOER: the n (1 .. 30) behind which, among these, the CELL that most of them tell is told by the fewest (of several the least).");
        PrintsGoOn stays = Checks.shore("g", "y:0");
        EDGES.due("all are alike: the least", stays.ask(0), 1);
        PrintsGoOn last = Checks.shore("g", "y:t=5&n=0?1;y:t=5&n=1&p=1?1;y:0");
        EDGES.due("only behind 30", last.ask(0), 30);
        PrintsGoOn now = Checks.shore("sw6;g", "y:n=0&t=0?1;y:0");
        EDGES.due("behind 1 as behind all", now.ask(0), 1);
        PrintsGoOn one = Checks.shore("sw6h5;gx2y2");
        one.seen(0, 1, 2);
        EDGES.due("one fits: the least", one.ask(0), 1);
        PrintsGoOn most = Checks.shore("sw6h5;gx2y2;gx1y1");
        most.seen(1, 0, 0);
        EDGES.due("what was seen of another one does not matter", most.ask(0), Checks.shore("sw6h5;gx2y2").ask(0));
        EDGES.says("ASK. NONE: nothing fits, no such GOER.");
        EDGES.refused("nothing fits", most, () -> most.ask(1), NONE);
        EDGES.refused("goer 2", most, () -> most.ask(2), NONE);
        for (int out : OUT) {
            EDGES.refused("goer " + out, most, () -> most.ask(out), NONE);
        }
        EDGES.refused("no shore", new PrintsGoOn(), () -> new PrintsGoOn().ask(0), NONE);
    }

    private static void game(String shore, String law, int first, int second) {
        PrintsGoOn prints = law.isEmpty() ? Checks.shore(shore) : Checks.shore(shore, law);
        EDGES.refused(shore + " by " + law + ", the first", prints, () -> prints.game(0, 1, 1, 3, 0), first);
        EDGES.refused(shore + " by " + law + ", the second", prints, () -> prints.game(0, 1, 1, 3, 1), second);
        EDGES.due("the other way round", prints.game(1, 0, 3, 1, 0), second);
        EDGES.due("and its second", prints.game(1, 0, 3, 1, 1), first);
    }

    private static void game() {
        EDGES.says("how many unlike CELLS it is on behind 1 .. 6 HOURS (its own one now not counted, GONE or IN: that CELL once), 3 less, if they MEET in these.");
        game("sw6h5;g;gx5y4", "", 6, 6);
        game("sw2h2;g;gx1y1", "", 3, 3);
        game("sw6h5;g;gx5y4", "y:0", 0, 4);
        game("sw6h5;g;gx5y4p4", "y:b=1?0;y:0", 0, 1);
        game("sw6h5;r3;gx1y0;gx5y4", "y:b=1?3;y:a=1?b+1;y:b", 1, 6);
        game("sw6h5;r02;g;gx5y4", "", 1, 6);
        game("sw6h5;r0;r;r;r;r000002;g;gx5y4", "", 6, 0);
        String stay = "y:p=2?2;y:t=0?2;y:1";
        game("sw6h5;gy4;gx5y4p2", stay, 2, -3);
        game("sw6h5;gy4;gx5y4p2", "y:p=2?2;y:t<2?2;y:1", 4, 0);
        game("sw6h5;gy4;gy4p2", "y:2", -3, -3);
        game("sw6h5;g;gx2", "y:b", 1 - 3, 4 - 3);
    }

    private static void gameRefused() {
        EDGES.says("GAME: what the first has (0), the second (1). HIDDEN: no such GOERS, alike, one does not GO, out of bounds.");
        PrintsGoOn prints = Checks.shore("sw6h5;g;gx5;gx3");
        EDGES.refused("alike", prints, () -> prints.game(1, 1, 0, 0, 0), HIDDEN);
        EDGES.refused("goer 3", prints, () -> prints.game(3, 1, 0, 0, 0), HIDDEN);
        EDGES.refused("with goer 3", prints, () -> prints.game(0, 3, 0, 0, 0), HIDDEN);
        EDGES.refused("x 4", prints, () -> prints.game(0, 1, 4, 0, 0), HIDDEN);
        EDGES.refused("y 4", prints, () -> prints.game(0, 1, 0, 4, 0), HIDDEN);
        EDGES.refused("what 2", prints, () -> prints.game(0, 1, 0, 0, 2), HIDDEN);
        for (int out : OUT) {
            EDGES.refused("first " + out, prints, () -> prints.game(out, 1, 0, 0, 0), HIDDEN);
            EDGES.refused("second " + out, prints, () -> prints.game(0, out, 0, 0, 0), HIDDEN);
            EDGES.refused("x " + out, prints, () -> prints.game(0, 1, out, 0, 0), HIDDEN);
            EDGES.refused("y " + out, prints, () -> prints.game(0, 1, 0, out, 0), HIDDEN);
            EDGES.refused("what " + out, prints, () -> prints.game(0, 1, 0, 0, out), HIDDEN);
        }
        EDGES.refused("no shore", new PrintsGoOn(), () -> new PrintsGoOn().game(0, 1, 0, 0, 0), HIDDEN);
        prints.sweep(0);
        EDGES.refused("the first does not go", prints, () -> prints.game(0, 1, 0, 0, 0), HIDDEN);
        EDGES.refused("the second does not go", prints, () -> prints.game(1, 0, 0, 0, 0), HIDDEN);
        EDGES.due("the others do", prints.game(1, 2, 0, 0, 0) > HIDDEN, true);
    }

    private static void rests() {
        EDGES.says("RESTS: 10 times x and y by which neither has more by another of its own: how many, the i-th (rising).");
        PrintsGoOn all = Checks.shore("sw6h5;g;gx5;gx3", "y:0");
        EDGES.due("all", all.rests(0, 1, -1), 16);
        EDGES.due("the first", all.rests(0, 1, 0), 0);
        EDGES.due("the fifth", all.rests(0, 1, 4), 10);
        EDGES.due("the last", all.rests(0, 1, 15), 33);
        EDGES.refused("one further", all, () -> all.rests(0, 1, 16), NONE);
        EDGES.refused("-2", all, () -> all.rests(0, 1, -2), NONE);
        EDGES.refused("the least", all, () -> all.rests(0, 1, Integer.MIN_VALUE), NONE);
        EDGES.due("none", counted("sw2h3;gx1y1p2;gy2b3"), 0);
        EDGES.due("one", counted("sw3h2;g;gy1p3;gx1y1b0"), 1);
        EDGES.due("some", counted("sw3h3;gx0;gx2p2"), 3);
        EDGES.due("many", counted("sw6h5;gx1y1;gx2y1p2"), 13);
        EDGES.says("RESTS: how many (i NONE), the i-th. NONE: no such one, no such GOERS, alike, one does not GO.");
        EDGES.refused("alike", all, () -> all.rests(1, 1, -1), NONE);
        EDGES.refused("goer 3", all, () -> all.rests(0, 3, -1), NONE);
        for (int out : OUT) {
            EDGES.refused("first " + out, all, () -> all.rests(out, 1, -1), NONE);
            EDGES.refused("second " + out, all, () -> all.rests(0, out, -1), NONE);
        }
        all.sweep(0);
        EDGES.refused("the first does not go", all, () -> all.rests(0, 1, -1), NONE);
        EDGES.refused("the second does not go", all, () -> all.rests(1, 0, -1), NONE);
        EDGES.refused("no shore", new PrintsGoOn(), () -> new PrintsGoOn().rests(0, 1, -1), NONE);
    }

    /** Each rest is held against all games; tells how many there are. */
    private static int counted(String shore) {
        PrintsGoOn prints = Checks.shore(shore);
        int found = 0;
        for (int i = 0; i < 16; i++) {
            int x = i / 4;
            int y = i % 4;
            boolean rest = true;
            for (int other = 0; other < 4; other++) {
                rest &= prints.game(0, 1, other, y, 0) <= prints.game(0, 1, x, y, 0);
                rest &= prints.game(0, 1, x, other, 1) <= prints.game(0, 1, x, y, 1);
            }
            if (rest) {
                EDGES.due(shore + ", the " + found + "th", prints.rests(0, 1, found), 10 * x + y);
                found++;
            }
        }
        int further = found;
        EDGES.due(shore + ", how many", prints.rests(0, 1, -1), found);
        EDGES.refused(shore + ", one further", prints, () -> prints.rests(0, 1, further), NONE);
        return found;
    }

    private static void odds() {
        EDGES.says("ODDS of a GOER for a CELL, n (0 .. 6) HOURS and a chance (0 .. 100)");
        PrintsGoOn prints = Checks.shore("sw6h5;gx2y2;gx5");
        EDGES.due("0 hours", prints.odds(0, 14, 0, 100), 1000000000);
        EDGES.due("0 hours, elsewhere", prints.odds(0, 29, 0, 100), 0);
        EDGES.due("1 hour, chance 0", prints.odds(0, 15, 1, 0), 1000000000);
        EDGES.due("1 hour, chance 100", prints.odds(0, 20, 1, 100), 1000000000);
        EDGES.due("1 hour, chance 1", prints.odds(0, 20, 1, 1), 10000000);
        EDGES.due("1 hour, chance 99", prints.odds(0, 15, 1, 99), 10000000);
        EDGES.due("6 hours, chance 100: round, then down and left", prints.odds(0, 19, 6, 100), 1000000000);
        EDGES.refused("7 hours", prints, () -> prints.odds(0, 0, 7, 50), NONE);
        EDGES.refused("chance 101", prints, () -> prints.odds(0, 0, 1, 101), NONE);
        EDGES.refused("cell 30", prints, () -> prints.odds(0, 30, 1, 50), NONE);
        EDGES.refused("goer 2", prints, () -> prints.odds(2, 0, 1, 50), NONE);
        for (int out : OUT) {
            EDGES.refused("goer " + out, prints, () -> prints.odds(out, 0, 1, 50), NONE);
            EDGES.refused("cell " + out, prints, () -> prints.odds(0, out, 1, 50), NONE);
            EDGES.refused("hours " + out, prints, () -> prints.odds(0, 0, out, 50), NONE);
            EDGES.refused("chance " + out, prints, () -> prints.odds(0, 0, 1, out), NONE);
        }
        EDGES.refused("no shore", new PrintsGoOn(), () -> new PrintsGoOn().odds(0, 0, 1, 50), NONE);
        prints.sweep(14);
        EDGES.due("gone: where it was so", prints.odds(0, 14, 6, 50), 1000000000);
        PrintsGoOn under = Checks.shore("r2;g");
        EDGES.due("under: it does not go there", under.odds(0, 0, 6, 50), 1000000000);
        PrintsGoOn hotel = Checks.shore("sw3h3;r030;gx1y1b0");
        EDGES.due("in: where it was so", hotel.odds(0, 1, 6, 0), 1000000000);
    }

    /** By this law it stays as long as no wind turns it; each turn from the left edge leads a row down. */
    private static void oddsThatAreCut() {
        EDGES.says("of each part chance 100ths, cut, turned");
        PrintsGoOn prints = Checks.shore("sw6h5;gb3", "y:b=0?2;y:b");
        EDGES.due("four are even: never turned", prints.odds(0, 0, 4, 33), 201511210);
        EDGES.due("the fifth is cut", prints.odds(0, 0, 5, 33), 135012511);
        EDGES.due("so is the sixth", prints.odds(0, 0, 6, 33), 90458383);
        EDGES.due("99 of 100: 10 is left of four", prints.odds(0, 0, 4, 99), 10);
        EDGES.due("9.9 are cut", prints.odds(0, 0, 5, 99), 1);
        EDGES.due("0.99 is cut", prints.odds(0, 0, 6, 99), 1);
        for (int chance = 0; chance <= 100; chance += 33) {
            long sum = 0;
            for (int cell = 0; cell < 30; cell++) {
                sum += prints.odds(0, cell, 6, chance);
            }
            EDGES.due("all parts by " + chance, sum, 1000000000);
        }
    }

    private static void shares() {
        EDGES.says("SHARES of c (0 .. 999) by how many CELLS each went: for a GOER c times its by all, cut (none: 0).");
        PrintsGoOn prints = Checks.shore("sw6;g;gy1p2;gy2p4");
        EDGES.due("none went", prints.shares(2, 999), 0);
        prints.hour();
        EDGES.due("1 of 7", prints.shares(0, 999), 142);
        EDGES.due("2 of 7", prints.shares(1, 999), 285);
        EDGES.due("4 of 7", prints.shares(2, 999), 570);
        EDGES.due("of 7", prints.shares(0, 7), 1);
        EDGES.due("of 6", prints.shares(0, 6), 0);
        EDGES.due("of 1", prints.shares(2, 1), 0);
        EDGES.due("of 0", prints.shares(2, 0), 0);
        EDGES.refused("1000", prints, () -> prints.shares(0, 1000), NONE);
        EDGES.refused("goer 3", prints, () -> prints.shares(3, 1), NONE);
        for (int out : OUT) {
            EDGES.refused("goer " + out, prints, () -> prints.shares(out, 1), NONE);
            EDGES.refused("c " + out, prints, () -> prints.shares(0, out), NONE);
        }
        EDGES.refused("no shore", new PrintsGoOn(), () -> new PrintsGoOn().shares(0, 1), NONE);
        PrintsGoOn one = Checks.shore("g;gx1y1b0");
        one.hour();
        one.anew(1, 0);
        EDGES.due("all of it", one.shares(0, 999), 999);
        EDGES.due("nothing", one.shares(1, 999), 0);
    }

    private static void farAndSwift() {
        EDGES.says("FARTHEST: the GOER that went most CELLS; SWIFTEST: with the most PACE (of several the lowest, both).");
        PrintsGoOn prints = Checks.shore("sw6h5;g;gy1p3;gy2p3;gy3p2");
        EDGES.due("nobody went: the lowest", prints.all(0), 0);
        EDGES.due("two of pace 3: the lowest", prints.all(1), 1);
        prints.hour();
        EDGES.due("two went 3: the lowest", prints.all(0), 1);
        prints.anew(1, 1);
        EDGES.due("then the other", prints.all(0), 2);
        prints.sweep(prints.goer(2, 0));
        EDGES.due("gone or not", prints.all(0), 2);
        EDGES.due("the last of four", Checks.shore("g;g;g;gp2").all(1), 3);
        EDGES.says("GOING: GOERS (bits); IN: bits; GONE: bits.");
        PrintsGoOn bits = Checks.shore("r0302;g;gx2b3;gx2;gx4y3");
        EDGES.due("all go", bits.all(2), 15);
        EDGES.due("none in", bits.all(3), 0);
        EDGES.due("none gone", bits.all(4), 0);
        bits.hour();
        EDGES.due("one goes", bits.all(2), 8);
        EDGES.due("two in", bits.all(3), 3);
        EDGES.due("one gone", bits.all(4), 4);
        EDGES.says("NONE: no SHORE, no such what.");
        EDGES.refused("what 10", bits, () -> bits.all(10), NONE);
        for (int out : OUT) {
            EDGES.refused("what " + out, bits, () -> bits.all(out), NONE);
        }
        for (int what = 0; what < 10; what++) {
            EDGES.due("no shore, " + what, new PrintsGoOn().all(what), NONE);
        }
    }

    private static void dryAndParts() {
        EDGES.says("DRY: how many CELLS are no rock and not UNDER. PARTS: how many parts of these can't come together.");
        PrintsGoOn prints = Checks.shore("sw6h5;r010101;r101010;r010101;r101010;r010101;gy4");
        EDGES.due("fifteen", prints.all(5), 15);
        EDGES.due("each by itself", prints.all(6), 15);
        prints.tide(1);
        EDGES.due("a row less", prints.all(5), 12);
        EDGES.due("parts, too", prints.all(6), 12);
        prints.tide(5);
        EDGES.due("none dry", prints.all(5), 0);
        EDGES.due("no part", prints.all(6), 0);
        PrintsGoOn whole = Checks.shore("sw6h5;g");
        EDGES.due("all dry", whole.all(5), 30);
        EDGES.due("one part", whole.all(6), 1);
        PrintsGoOn snake = Checks.shore("sw6h5;r000000;r111110;r000000;r011111;r000000;g");
        EDGES.due("one part, far round", snake.all(6), 1);
        PrintsGoOn hotel = Checks.shore("sw3h2;r031;r112;g");
        EDGES.due("a hotel is dry, water and rock are not", hotel.all(5), 2);
        EDGES.due("by corners nothing comes together", Checks.shore("sw2h2;r01;r1;g").all(6), 2);
        EDGES.due("nor round the edge", Checks.shore("sw3h2;r110;r011;g").all(6), 2);
    }

    private static void crowds() {
        EDGES.says("CROWD: the most that GO on one CELL. BUSY: CELLS (bits) where PRINTS GO.");
        PrintsGoOn prints = Checks.shore("sw6h5;gx5y4;gx5y4;gx5y4;gx5y4");
        EDGES.due("four", prints.all(7), 4);
        EDGES.due("the last cell", prints.all(8), 1 << 29);
        prints.sweep(29);
        EDGES.due("none", prints.all(7), 0);
        EDGES.due("nowhere", prints.all(8), 0);
        PrintsGoOn first = Checks.shore("g;gx1;gx1;gx2");
        EDGES.due("one", Checks.shore("g").all(7), 1);
        EDGES.due("two", first.all(7), 2);
        EDGES.due("the first three cells", first.all(8), 7);
    }

    private static void facing() {
        EDGES.says("FACED: pairs that GO on CELLS beside one another, each LOOKING at the other one.");
        EDGES.due("right and left", Checks.shore("gx1;gx2b3").all(9), 1);
        EDGES.due("left and right", Checks.shore("gx2b3;gx1").all(9), 1);
        EDGES.due("up and down", Checks.shore("gy1b0;gb2").all(9), 1);
        EDGES.due("one looks away", Checks.shore("gx1;gx2b1").all(9), 0);
        EDGES.due("both look away", Checks.shore("gx1b3;gx2b1").all(9), 0);
        EDGES.due("not beside one another", Checks.shore("gx1;gx3b3").all(9), 0);
        EDGES.due("on one cell", Checks.shore("gx1;gx1b3").all(9), 0);
        EDGES.due("round the edge", Checks.shore("gx4;gy1b3").all(9), 0);
        EDGES.due("by a corner", Checks.shore("gx1;gx2y1b3").all(9), 0);
        EDGES.due("two and two", Checks.shore("gx1;gx1;gx2b3;gx2b3").all(9), 4);
        EDGES.due("one and three", Checks.shore("gx1;gx2b3;gx2b3;gx2b3").all(9), 3);
        PrintsGoOn gone = Checks.shore("gx1;gx2b3");
        gone.sweep(2);
        EDGES.due("one that is gone", gone.all(9), 0);
        PrintsGoOn four = Checks.shore("sw6h5;gy4;gx3b3;gy2;gy3");
        four.hour();
        EDGES.due("four, none beside another", four.all(9), 0);
        PrintsGoOn out = Checks.shore("gb0;gb3");
        EDGES.due("looking out of the shore", out.all(9), 0);
    }

    private static void next() {
        EDGES.says("NEXT. NONE: it does not GO, it is UNDER, no such GOER.");
        EDGES.due("a cell on, by pace 4, too", Checks.shore("sw6;gp4").ahead(0), 1);
        EDGES.due("into water", Checks.shore("r02;g").ahead(0), 1);
        EDGES.due("into a hotel", Checks.shore("r03;g").ahead(0), 1);
        EDGES.due("under the tide", Checks.shore("sh2t1;gb2").ahead(0), 5);
        EDGES.due("it turns at the edge", Checks.shore("sw2h2;gx1").ahead(0), 3);
        EDGES.due("it turns and stays", Checks.shore("sw2h2;r01;r1;g").ahead(0), 0);
        EDGES.due("by a law", Checks.shore("gx1y1", "y:0").ahead(0), 1);
        PrintsGoOn under = Checks.shore("r2;g");
        EDGES.refused("it is under", under, () -> under.ahead(0), NONE);
        PrintsGoOn tide = Checks.shore("gy3");
        tide.tide(1);
        EDGES.refused("it is under the tide", tide, () -> tide.ahead(0), NONE);
        PrintsGoOn gone = Checks.shore("r03;g;gx4");
        gone.hour();
        EDGES.refused("it is in", gone, () -> gone.ahead(0), NONE);
        gone.sweep(gone.goer(1, 0));
        EDGES.refused("it is gone", gone, () -> gone.ahead(1), NONE);
        EDGES.refused("goer 2", gone, () -> gone.ahead(2), NONE);
        for (int out : OUT) {
            EDGES.refused("goer " + out, gone, () -> gone.ahead(out), NONE);
        }
        EDGES.refused("no shore", new PrintsGoOn(), () -> new PrintsGoOn().ahead(0), NONE);
    }

    /** What holds of the first holds of the last: each is asked about with others in its way. */
    private static void theLastOfFour() {
        EDGES.says("ODDS of a GOER for a CELL");
        PrintsGoOn prints = Checks.shore("sw6h5;gx4y3b3;gx2y1b2;gx5y4;gx2y3b1p2");
        EDGES.due("as it looks", prints.odds(3, 22, 1, 30), 700000000);
        EDGES.due("turned: down, then to the left of the edge", prints.odds(3, 25, 1, 30), 300000000);
        EDGES.due("where it is", prints.odds(3, 20, 0, 30), 1000000000);
        EDGES.says("AGAIN of a GOER");
        PrintsGoOn again = Checks.shore("sw2h2;r01;r1;g;g;gx1y1;gx1y1b3", "y:p=1?0");
        EDGES.due("it looks up from then on", again.again(3), NONE);
        again.hour();
        EDGES.due("so it does now", again.goer(3, 1), 2);
        EDGES.due("it met the other one, and again in an hour", again.again(3), 1);
        EDGES.says("FITS of a GOER");
        PrintsGoOn fits = Checks.shore("sw6h5;gx3y2b3;gx3y2b3;gx3y2b3;gx2y2b0p4");
        fits.seen(3, 0, 14);
        fits.seen(3, 1, 16);
        EDGES.due("two to the right, through the others", fits.fits(3, -1), 1);
        EDGES.due("so", fits.fits(3, 0), 21);
        fits.seen(3, 2, 17);
        EDGES.due("right, then at the edge down: not there", fits.fits(3, -1), 0);
        EDGES.due("nothing is told of the first", fits.fits(0, -1), 16);
        PrintsGoOn alone = Checks.shore("sw6h5;gx4y0b3;gx2y0b3");
        alone.seen(1, 2, 4);
        EDGES.due("the first is not in its way", alone.fits(1, 0), 10);
    }
}
