/** What the document says of the edges of cells, steps, hours and acts: Terms 2, and promises 6 to 15, 17 and 18. */
public final class EdgesOfHoursTest {
    private static final int NONE = PrintsGoOn.NONE;
    private static final int[] OUT = {Integer.MIN_VALUE, -2, -1};
    private static final Edges EDGES = new Edges("EdgesOfHoursTest");

    public static void main(String[] args) {
        cells();
        under();
        what();
        looks();
        letters();
        went();
        goingThere();
        hours();
        paces();
        meetings();
        turning();
        theLog();
        tides();
        stones();
        sweeping();
        anew();
        anewAndRocks();
        anewOfEach();
        coins();
        undone();
        undoneInFull();
        kindsAndGoers();
        lawsAndChildren();
        withoutAShore();
        EDGES.end();
    }

    private static void goer(String what, PrintsGoOn prints, int goer, int... due) {
        for (int i = 0; i < due.length; i++) {
            EDGES.due(what + ": goer(" + goer + ", " + i + ")", State.goer(prints, goer, i), due[i]);
        }
    }

    private static void cells() {
        EDGES.says("CELLS are numbered: ROW times WIDE and place, both from 0.");
        EDGES.due("the first", Checks.shore("sw6h5;gx0y0").goer(0, 0), 0);
        EDGES.due("the end of the first row", Checks.shore("sw6h5;gx5y0").goer(0, 0), 5);
        EDGES.due("the second row", Checks.shore("sw6h5;gx0y1").goer(0, 0), 6);
        EDGES.due("the last", Checks.shore("sw6h5;gx5y4").goer(0, 0), 29);
        EDGES.due("the last of the least shore", Checks.shore("sw2h2;gx1y1").goer(0, 0), 3);
    }

    private static void under() {
        EDGES.says("A CELL is UNDER, if it is water, or in one of the last ROWS, as many as the TIDE.");
        PrintsGoOn prints = Checks.shore("sw3h3;r012;r;r3;g");
        for (int tide = 0; tide <= 5; tide++) {
            if (tide > 0) {
                prints.tide(tide);
            }
            for (int cell = 0; cell < 9; cell++) {
                boolean under = cell == 2 || cell / 3 >= 3 - tide;
                EDGES.due("cell " + cell + " at a tide of " + tide, prints.shore(cell, 1), under ? 1 : 0);
                EDGES.due("its kind stays", prints.shore(cell, 0), cell == 1 ? 1 : cell == 2 ? 2 : cell == 6 ? 3 : 0);
            }
        }
    }

    /** What is ahead as the law's letter a: the way it looks behind the step. */
    private static void ahead(String shore, int due) {
        PrintsGoOn prints = Checks.shore(shore, "y:a");
        prints.hour();
        EDGES.due("a in " + shore, prints.goer(0, 1), due);
    }

    private static void what() {
        EDGES.says("what is there: 1 rock, or it is out of the SHORE; else 2 UNDER; else 3 a hotel; else 0.");
        ahead("sw3h3;r;r000;gx1y1b0", 0);
        ahead("sw3h3;r01;gx1y1b0", 1);
        ahead("sw3h3;r02;gx1y1b0", 2);
        ahead("sw3h3;r03;gx1y1b0", 3);
        ahead("sw3h3;gx1y0b0", 1);
        ahead("sw3h3;gx2y1b1", 1);
        ahead("sw3h3;gx1y2b2", 1);
        ahead("sw3h3;gx0y1b3", 1);
        ahead("sw3h3t1;gx1y1b2", 2);
        ahead("sw3h3t1;r;r;r01;gx1y1b2", 1);
        ahead("sw3h3t1;r;r;r02;gx1y1b2", 2);
        ahead("sw3h3t1;r;r;r03;gx1y1b2", 2);
        ahead("sw3h3t1;r;r03;gx1y0b2", 3);
    }

    private static void look(String law, int due) {
        PrintsGoOn prints = Checks.shore("gx2y2", law);
        prints.hour();
        EDGES.due("by " + law, prints.goer(0, 1), due);
    }

    private static void looks() {
        EDGES.says("WORTH by the LAW that holds modulo 4 (0 .. 3 also of numbers below 0)");
        look("y:3", 3);
        look("y:4", 0);
        look("y:5", 1);
        look("y:0-1", 3);
        look("y:0-3", 1);
        look("y:0-4", 0);
        look("y:0-5", 3);
        look("y:0-9999*9999", 0);
        EDGES.says("none at first: as it does, or, if AHEAD is 1, one to the right of that (0, 1, 2, 3, 0 ..)");
        for (int look = 0; look < 4; look++) {
            PrintsGoOn open = Checks.shore("sw3h3;gx1y1b" + look);
            open.hour();
            EDGES.due("nothing ahead of " + look, open.goer(0, 1), look);
            PrintsGoOn closed = Checks.shore("sw3h3;r010;r101;r010;gx1y1b" + look);
            closed.hour();
            goer("rocks all around, " + look, closed, 0, 4, (look + 1) % 4, 1, 0, 0);
        }
        PrintsGoOn edge = Checks.shore("sw2h2;gy1b3");
        edge.hour();
        goer("from 3 to 0 at the edge", edge, 0, 0, 0, 1, 1, 0);
        PrintsGoOn water = Checks.shore("r02;g");
        water.hour();
        goer("water ahead does not turn it", water, 0, 1, 1, 1, 1, 2);
        PrintsGoOn hotel = Checks.shore("r03;g");
        hotel.hour();
        goer("nor does a hotel", hotel, 0, 1, 1, 1, 1, 1);
        PrintsGoOn law = Checks.shore("gx4", "y:b");
        law.hour();
        goer("by a law it does not turn by itself", law, 0, 4, 1, 1, 0, 0);
        law.law(NONE);
        law.hour();
        goer("by none it does", law, 0, 9, 2, 1, 1, 0);
    }

    private static void letters() {
        EDGES.says("r what is to the right of it (AHEAD, were it to LOOK one further)");
        int[] right = {3, 2, 0, 1};
        for (int look = 0; look < 4; look++) {
            PrintsGoOn prints = Checks.shore("sw3h3;r010;r003;r020;gx1y1b" + look, "y:r");
            prints.hour();
            EDGES.due("r as it looks " + look, prints.goer(0, 1), right[look]);
        }
        PrintsGoOn corner = Checks.shore("sw2h2;gb3", "y:r+1");
        corner.hour();
        EDGES.due("up from the left is out of the shore", corner.goer(0, 1), 2);
        EDGES.says("t the HOUR modulo 24");
        PrintsGoOn hours = Checks.shore("sw2h2;r01;r1;g", "y:t/6");
        for (int hour = 0; hour < 50; hour++) {
            hours.hour();
            EDGES.due("the hour " + hour, hours.goer(0, 1), hour % 24 / 6);
        }
        PrintsGoOn twentyThree = Checks.shore("sw2h2;r01;r1;g", "y:t=23?1;y:t=24?2;y:t=0?3;y:0");
        for (int hour = 0; hour < 26; hour++) {
            twentyThree.hour();
            EDGES.due("23, then 0: hour " + hour, twentyThree.goer(0, 1), hour % 24 == 23 ? 1 : hour % 24 == 0 ? 3 : 0);
        }
    }

    /** Round and round by 2 by 2; where the law tells it to, it looks at the edge and stays for good. */
    private static void staysAt(String law, int went) {
        PrintsGoOn prints = Checks.shore("sw2h2;gp4", law);
        for (int i = 0; i < 45; i++) {
            prints.hour();
        }
        EDGES.due("it went by " + law, prints.goer(0, 3), went);
    }

    private static void went() {
        EDGES.says("n how many CELLS it went in all modulo 100");
        staysAt("y:n=99?b;y:a=1?b+1;y:b", 99);
        staysAt("y:n=100?b;y:a=1?b+1;y:b", 180);
        staysAt("y:n>99?b;y:a=1?b+1;y:b", 180);
        staysAt("y:n=0&t>0?b;y:a=1?b+1;y:b", 100);
        staysAt("y:n=1&t>0?b;y:a=1?b+1;y:b", 101);
    }

    private static void goingThere() {
        EDGES.says("unless AHEAD (as it LOOKS now) is 1, it goes there: UNDER: it is GONE; a hotel: it is IN.");
        PrintsGoOn rock = Checks.shore("sw3h3;r010;r000;gx1y1b1", "y:0");
        rock.hour();
        goer("it looks at a rock now", rock, 0, 4, 0, 1, 0, 0);
        PrintsGoOn open = Checks.shore("sw3h3;r010;r001;gx1y1b1", "y:2");
        open.hour();
        goer("it looked at a rock ahead of that", open, 0, 7, 2, 1, 1, 0);
        PrintsGoOn water = Checks.shore("sw3h3;r020;gx1y1b0p4");
        water.hour();
        goer("gone in the water", water, 0, 1, 0, 4, 1, 2);
        PrintsGoOn tide = Checks.shore("sw3h3t1;gx1y0b2p4");
        tide.hour();
        goer("gone in the tide", tide, 0, 7, 2, 4, 2, 2);
        PrintsGoOn hotel = Checks.shore("sw3h3;r030;gx1y2b0p4");
        hotel.hour();
        goer("in", hotel, 0, 1, 0, 4, 2, 1);
        PrintsGoOn flooded = Checks.shore("sw3h3t1;r;r;r030;gx1y1b2");
        flooded.hour();
        goer("a hotel that is under", flooded, 0, 7, 2, 1, 1, 2);
    }

    private static void hours() {
        EDGES.says("An HOUR (0 at first; 9,999 at most: none goes by then)");
        PrintsGoOn prints = Checks.shore("sw2h2;g");
        EDGES.due("at first", prints.count(6), 0);
        prints.hour();
        EDGES.due("behind one", prints.count(6), 1);
        prints.children(0);
        for (int i = 0; i < 333; i++) {
            prints.years(30, i);
        }
        EDGES.due("behind many", prints.count(6), 9991);
        Checks.tell(prints, 2, "h;h;h;h;h;h;h;h;h");
        for (int i = 0; i < 7; i++) {
            prints.hour();
        }
        EDGES.due("the last but one", prints.count(6), 9998);
        EDGES.due("one more hour can be", prints.run(0, 0), 1);
        prints.hour();
        EDGES.due("the most", prints.count(6), 9999);
        EDGES.refused("none goes by", prints, prints::hour, NONE);
        EDGES.refused("not by years", prints, () -> prints.years(1, 1), NONE);
        EDGES.refused("not by an evening", prints, () -> prints.perform(0), 0);
        EDGES.due("other acts can be", prints.give(1), 21);
        EDGES.due("undone", prints.undo(), 39);
        EDGES.due("and the hour", prints.undo(), 38);
        EDGES.due("so one can go by again", prints.perform(0), 1);
    }

    private static void paces() {
        EDGES.says("if its CELL is UNDER, it is GONE; else PACE STEPS, as long as it GOES;");
        PrintsGoOn water = Checks.shore("r2;gp4");
        water.hour();
        goer("without a step", water, 0, 0, 1, 4, 0, 2);
        EDGES.due("in the log", water.log(0, 1), 1);
        PrintsGoOn tide = Checks.shore("sw2h2;gy1b1");
        tide.tide(1);
        goer("the tide alone does nothing", tide, 0, 2, 1, 1, 0, 0);
        tide.hour();
        goer("the hour does", tide, 0, 2, 1, 1, 0, 2);
        PrintsGoOn ebb = Checks.shore("sw2h2t1;gy1b1");
        ebb.tide(0);
        ebb.hour();
        goer("at ebb it goes on", ebb, 0, 3, 1, 1, 1, 0);
        for (int pace = 1; pace <= 4; pace++) {
            PrintsGoOn prints = Checks.shore("sw6;gp" + pace);
            prints.hour();
            goer("pace " + pace, prints, 0, pace, 1, pace, pace, 0);
        }
        PrintsGoOn second = Checks.shore("r003;gp4");
        second.hour();
        goer("two of four", second, 0, 2, 1, 4, 2, 1);
        PrintsGoOn last = Checks.shore("r00003;gp4");
        last.hour();
        goer("the last of four", last, 0, 4, 1, 4, 4, 1);
        PrintsGoOn beyond = Checks.shore("sw6;r000003;gp4");
        beyond.hour();
        goer("one step more", beyond, 0, 4, 1, 4, 4, 0);
        beyond.hour();
        goer("in, and no further", beyond, 0, 5, 1, 4, 5, 1);
        beyond.hour();
        goer("it stays there", beyond, 0, 5, 1, 4, 5, 1);
        EDGES.due("and is in no log any more", beyond.log(0, 1), 0);
    }

    private static void meetings() {
        EDGES.says("each two that GO and are on one CELL have MET (MEETINGS: one more for each two, 9,999 at most)");
        String[] shores = {"g", "g;g", "g;g;g", "g;g;g;g", "g;g;gx1;gx1"};
        int[] due = {0, 1, 3, 6, 2};
        for (int i = 0; i < shores.length; i++) {
            PrintsGoOn prints = Checks.shore("sw6;" + shores[i]);
            EDGES.due(shores[i], prints.hour(), due[i]);
            EDGES.due("in all", prints.count(9), due[i]);
            EDGES.due("in the log", prints.log(0, 0), due[i]);
        }
        EDGES.due("in a hotel they do not go", Checks.shore("r03;g;g").hour(), 0);
        EDGES.due("nor in the water", Checks.shore("r02;g;g").hour(), 0);
        EDGES.due("beside one another", Checks.shore("sw6;g;gx1").hour(), 0);
        PrintsGoOn swept = Checks.shore("sw6;g;gx1y1b0;gx2b3");
        swept.sweep(6 + 1);
        EDGES.due("one that is gone meets nobody", swept.hour(), 1);
        PrintsGoOn four = Checks.shore("g;g;g;g", "y:0");
        Checks.tell(four, 2, "h;h;h;h;h;h;h;h;h;h;h;h;h;h;h;h");
        for (int i = 0; i < 104; i++) {
            four.perform(0);
        }
        four.hour();
        four.hour();
        EDGES.due("1666 hours of six", four.count(9), 9996);
        EDGES.due("six more", four.hour(), 6);
        EDGES.due("the most", four.count(9), 9999);
        EDGES.due("an evening of sixteen", four.run(0, 1), 96);
        EDGES.due("six in the next", four.hour(), 6);
        EDGES.due("no more", four.count(9), 9999);
        four.undo();
        four.undo();
        EDGES.due("undone: as many as were there", four.count(9), 9996);
    }

    private static void turning() {
        EDGES.says("whoever MET somebody LOOKS the other way (2 on) then.");
        for (int look = 0; look < 4; look++) {
            PrintsGoOn prints = Checks.shore("sw3h3;r010;r101;r010;gx1y1b" + look + ";gx1y1b" + look);
            prints.hour();
            goer("turned by rocks, then by the other one, from " + look, prints, 0, 4, (look + 3) % 4, 1, 0, 0);
            goer("the other one", prints, 1, 4, (look + 3) % 4, 1, 0, 0);
        }
        PrintsGoOn three = Checks.shore("sw6;g;g;g;gx1");
        three.hour();
        goer("it met two and turns once", three, 0, 1, 3, 1, 1, 0);
        goer("who met nobody looks on", three, 3, 2, 1, 1, 1, 0);
        PrintsGoOn toes = Checks.shore("sw6;gx0;gx1b3");
        toes.hour();
        goer("two that change places have not met", toes, 0, 1, 1, 1, 1, 0);
    }

    private static void theLog() {
        EDGES.says("MEETINGS of this HOUR, which were GONE or IN in it (bits), the TIDE (the latest 60).");
        PrintsGoOn prints = Checks.shore("sw6h5;r003002;gx0;gx5y3b0p3;gx3y4;gx3y4");
        EDGES.due("none at first", prints.count(12), 0);
        EDGES.refused("none at first", prints, () -> prints.log(0, 0), NONE);
        EDGES.due("0 goes to 1, 1 into the water at 5, 2 and 3 meet", prints.hour(), 1);
        EDGES.due("gone: bit 1", prints.log(0, 1), 2);
        prints.tide(1);
        prints.sweep(prints.goer(0, 0));
        prints.anew(0, 1);
        prints.hour();
        EDGES.due("swept is not in the hour, the tide is: bits 2, 3", prints.log(0, 1), 12);
        EDGES.due("the tide", prints.log(0, 2), 1);
        prints.hour();
        EDGES.due("in: bit 0", prints.log(0, 1), 1);
        EDGES.due("the one ahead of it", prints.log(1, 1), 12);
        EDGES.due("the first", prints.log(2, 1), 2);
        EDGES.due("its meetings", prints.log(2, 0), 1);
        EDGES.due("its tide", prints.log(2, 2), 0);
        EDGES.refused("one ahead of the first", prints, () -> prints.log(3, 0), NONE);
        for (int out : OUT) {
            EDGES.refused("log(" + out + ", 0)", prints, () -> prints.log(out, 0), NONE);
            EDGES.refused("log(0, " + out + ")", prints, () -> prints.log(0, out), NONE);
        }
        EDGES.refused("log(0, 3)", prints, () -> prints.log(0, 3), NONE);
        sixty();
    }

    private static void sixty() {
        PrintsGoOn prints = Checks.shore("sh5;g");
        for (int hour = 0; hour < 62; hour++) {
            if (hour > 0) {
                prints.tide(hour % 6);
            }
            prints.hour();
            EDGES.due("how long behind " + (hour + 1), prints.count(12), Math.min(60, hour + 1));
        }
        EDGES.due("the latest", prints.log(0, 2), 61 % 6);
        EDGES.due("the 60th", prints.log(59, 2), 2);
        EDGES.refused("the 61st", prints, () -> prints.log(60, 2), NONE);
        prints.undo();
        EDGES.due("an hour less: still sixty", prints.count(12), 60);
        EDGES.due("the 60th again, that had gone out", prints.log(59, 2), 1);
        prints.undo();
        prints.undo();
        EDGES.due("two less", prints.log(59, 2), 0);
        prints.undo();
        prints.undo();
        EDGES.due("three less: 59", prints.count(12), 59);
    }

    private static void tides() {
        EDGES.says("the TIDE is otherwise (0 .. 5; for nothing)");
        PrintsGoOn prints = Checks.shore("sc0h2;g");
        EDGES.refused("it is so", prints, () -> prints.tide(0), NONE);
        EDGES.due("1, without a coin", prints.tide(1), 0);
        EDGES.due("5, with two rows", prints.tide(5), 1);
        EDGES.refused("6", prints, () -> prints.tide(6), NONE);
        EDGES.refused("5 is so", prints, () -> prints.tide(5), NONE);
        for (int out : OUT) {
            EDGES.refused("tide(" + out + ")", prints, () -> prints.tide(out), NONE);
        }
        EDGES.refused("the most", prints, () -> prints.tide(Integer.MAX_VALUE), NONE);
        EDGES.due("0", prints.tide(0), 5);
        EDGES.due("three acts", prints.count(13), 3);
    }

    private static void stones() {
        EDGES.says("a CELL of sand becomes rock, or rock sand (2 COINS; not where PRINTS GO)");
        PrintsGoOn prints = Checks.shore("sc4h2;r00123;gx4y1;gx3y1b0;gx2y1b0;gx0y1b3p4");
        EDGES.due("sand", prints.stone(0), 1);
        EDGES.due("coins", prints.count(7), 2);
        EDGES.refused("water", prints, () -> prints.stone(3), NONE);
        EDGES.refused("a hotel", prints, () -> prints.stone(4), NONE);
        EDGES.refused("prints go there", prints, () -> prints.stone(9), NONE);
        for (int out : OUT) {
            EDGES.refused("cell " + out, prints, () -> prints.stone(out), NONE);
        }
        EDGES.refused("cell 10 of 10", prints, () -> prints.stone(10), NONE);
        EDGES.due("the last two coins: rock", prints.stone(2), 0);
        EDGES.due("no coin is left", prints.count(7), 0);
        EDGES.refused("none", prints, () -> prints.stone(0), NONE);
        prints.give(1);
        EDGES.refused("one coin", prints, () -> prints.stone(0), NONE);
        prints.give(1);
        EDGES.due("two", prints.stone(0), 0);
        prints.give(50);
        prints.sweep(9);
        EDGES.due("where prints are gone", prints.stone(9), 1);
        EDGES.due("and back", prints.stone(9), 0);
        PrintsGoOn rock = Checks.shore("r1;g");
        EDGES.refused("a rock under prints that go", rock, () -> rock.stone(0), NONE);
        rock.tide(5);
        EDGES.due("sand that is under", rock.stone(19), 1);
    }

    private static void sweeping() {
        EDGES.says("a CELL is SWEPT: what GOES there is GONE (a COIN; it can't be, if nothing does)");
        PrintsGoOn prints = Checks.shore("sc2h2;r00003;gx3;g;g;g");
        EDGES.refused("nothing goes there", prints, () -> prints.sweep(1), NONE);
        for (int out : OUT) {
            EDGES.refused("cell " + out, prints, () -> prints.sweep(out), NONE);
        }
        EDGES.refused("cell 10 of 10", prints, () -> prints.sweep(10), NONE);
        EDGES.due("three for a coin", prints.sweep(0), 3);
        EDGES.due("one coin is left", prints.count(7), 1);
        EDGES.due("gone", prints.all(4), 14);
        goer("gone where it was", prints, 1, 0, 1, 1, 0, 2);
        EDGES.refused("they go no more", prints, () -> prints.sweep(0), NONE);
        prints.hour();
        EDGES.due("one is in", prints.all(3), 1);
        EDGES.refused("one that is in does not go", prints, () -> prints.sweep(4), NONE);
        PrintsGoOn last = Checks.shore("sc1;g;gx1");
        EDGES.due("the last coin", last.sweep(0), 1);
        EDGES.refused("no coin", last, () -> last.sweep(1), NONE);
        PrintsGoOn water = Checks.shore("r2;g");
        EDGES.due("what is under and still goes", water.sweep(0), 1);
    }

    private static void anew() {
        EDGES.says("a GOER begins ANEW: where it stopped, looking a way (0 .. 3), it GOES again, went nowhere (3 COINS");
        PrintsGoOn prints = Checks.shore("sc9;r003;gp4;gx4y3");
        prints.hour();
        goer("in", prints, 0, 2, 1, 4, 2, 1);
        EDGES.due("where it stopped", prints.anew(0, 3), 0);
        goer("it goes again", prints, 0, 0, 3, 4, 0, 0);
        EDGES.due("coins", prints.count(7), 6);
        prints.sweep(0);
        EDGES.due("it was gone", prints.anew(0, 0), 0);
        goer("it goes again", prints, 0, 0, 0, 4, 0, 0);
        EDGES.due("two coins", prints.count(7), 2);
        EDGES.refused("two are too few", prints, () -> prints.anew(0, 1), NONE);
        prints.give(1);
        EDGES.due("three, of one that goes", prints.anew(0, 1), 0);
        EDGES.due("none is left", prints.count(7), 0);
        prints.give(9);
        for (int out : OUT) {
            EDGES.refused("goer " + out, prints, () -> prints.anew(out, 0), NONE);
            EDGES.refused("look " + out, prints, () -> prints.anew(0, out), NONE);
        }
        EDGES.refused("goer 2 of 2", prints, () -> prints.anew(2, 0), NONE);
        EDGES.refused("look 4", prints, () -> prints.anew(0, 4), NONE);
        EDGES.due("the last goer", prints.anew(1, 2), 19);
        goer("the last goer", prints, 1, 19, 2, 1, 0, 0);
    }

    private static void anewAndRocks() {
        EDGES.says("not where there is a rock now");
        PrintsGoOn prints = Checks.shore("gx1y1b2");
        prints.hour();
        EDGES.due("a rock where it stopped", prints.stone(6), 1);
        EDGES.refused("a rock there now", prints, () -> prints.anew(0, 0), NONE);
        EDGES.due("no rock again", prints.stone(6), 0);
        EDGES.due("so it may", prints.anew(0, 0), 6);
        PrintsGoOn told = Checks.shore("r1;g");
        EDGES.refused("it stopped on a rock", told, () -> told.anew(0, 0), NONE);
        PrintsGoOn water = Checks.shore("r2;g");
        water.hour();
        EDGES.due("water is no rock", water.anew(0, 0), 0);
        PrintsGoOn hotel = Checks.shore("r3;g");
        EDGES.due("nor is a hotel: it goes there", hotel.anew(0, 0), 0);
        goer("it goes", hotel, 0, 0, 0, 1, 0, 0);
    }

    /** Four that went begin anew one by one; where a rock is laid it counts for who stopped there alone. */
    private static void anewOfEach() {
        EDGES.says("a GOER begins ANEW: where it stopped, looking a way (0 .. 3), it GOES again, went nowhere");
        int[] starts = {1, 9, 15, 22};
        PrintsGoOn prints = Checks.shore("sw6c99;gx1;gx3y1p2;gx3y2p1;gx4y3b0p1");
        prints.hour();
        int[] went = {2, 11, 16, 16};
        for (int goer = 0; goer < 4; goer++) {
            EDGES.due("where it went", prints.goer(goer, 0), went[goer]);
        }
        for (int rock = 0; rock < 4; rock++) {
            EDGES.due("a rock where " + rock + " stopped", prints.stone(starts[rock]), 1);
            for (int goer = 0; goer < 4; goer++) {
                int of = goer;
                if (goer == rock) {
                    EDGES.refused("not " + goer, prints, () -> prints.anew(of, 2), NONE);
                } else {
                    EDGES.due(goer + " may", prints.anew(goer, 2), starts[goer]);
                    goer("anew", prints, goer, starts[goer], 2, goer == 1 ? 2 : 1, 0, 0);
                    prints.undo();
                }
            }
            prints.stone(starts[rock]);
        }
        for (int goer = 0; goer < 4; goer++) {
            prints.anew(goer, goer);
            goer("that one", prints, goer, starts[goer], goer, goer == 1 ? 2 : 1, 0, 0);
            for (int other = goer + 1; other < 4; other++) {
                EDGES.due("not the others", prints.goer(other, 0), went[other]);
            }
        }
        EDGES.due("all cells are sand", prints.all(5), 24);
    }

    private static void coins() {
        EDGES.says("COINS are given (1 .. 50; 999 at most).");
        PrintsGoOn prints = Checks.shore("sc0;g");
        EDGES.due("1", prints.give(1), 1);
        EDGES.due("50", prints.give(50), 51);
        for (int out : new int[] {Integer.MIN_VALUE, -1, 0, 51, Integer.MAX_VALUE}) {
            EDGES.refused("give(" + out + ")", prints, () -> prints.give(out), NONE);
        }
        for (int i = 0; i < 18; i++) {
            prints.give(50);
        }
        EDGES.due("951", prints.count(7), 951);
        EDGES.refused("1001", prints, () -> prints.give(50), NONE);
        EDGES.refused("1000", prints, () -> prints.give(49), NONE);
        EDGES.due("999", prints.give(48), 999);
        EDGES.refused("1000 by one", prints, () -> prints.give(1), NONE);
        EDGES.due("acts", prints.count(13), 21);
    }

    private static void undone() {
        EDGES.says("the latest 40 can be UNDONE one by one (LOG, too).");
        PrintsGoOn prints = Checks.shore("sc0;g");
        EDGES.refused("none yet", prints, prints::undo, NONE);
        for (int i = 1; i <= 41; i++) {
            prints.give(i);
            EDGES.due("acts behind " + i, prints.count(13), Math.min(40, i));
        }
        EDGES.due("coins", prints.count(7), 861);
        int coins = 861;
        for (int i = 41; i >= 2; i--) {
            EDGES.due("act " + i + " is undone", prints.undo(), i - 2);
            coins -= i;
            EDGES.due("coins ahead of it", prints.count(7), coins);
        }
        EDGES.refused("the 41st", prints, prints::undo, NONE);
        EDGES.due("the first act stands", prints.count(7), 1);
        prints.give(5);
        EDGES.due("one can be again", prints.undo(), 0);
        PrintsGoOn hours = Checks.shore("sh5;g;g");
        hours.children(0);
        hours.years(30, 1);
        hours.years(30, 2);
        String before = State.withoutActs(hours);
        hours.years(30, 3);
        hours.years(10, 4);
        for (int i = 39; i >= 0; i--) {
            EDGES.due("an hour is undone", hours.undo(), i);
        }
        EDGES.due("all is as it was", State.withoutActs(hours), before);
    }

    /** Each act, undone, leaves what was there. */
    private static void undoneInFull() {
        EDGES.says("The latest ACT is UNDONE: how many still can be. NONE: none.");
        PrintsGoOn prints = Checks.shore("sw6c40;r003;gx0p2;gx5b3;gx3y2b0;gx3y0b2");
        Checks.tell(prints, 2, "h;g01;t4;s05;h");
        Edges.Call[] acts = {prints::hour, () -> prints.tide(2), () -> prints.stone(6), () -> prints.anew(0, 2),
            () -> prints.give(50), () -> prints.sweep(prints.goer(1, 0)), () -> prints.years(1, 77), prints::hour};
        String[] states = new String[acts.length];
        for (int i = 0; i < acts.length; i++) {
            states[i] = State.of(prints);
            EDGES.due("act " + i + " was done", acts[i].answer() != NONE, true);
        }
        for (int i = acts.length - 1; i >= 0; i--) {
            EDGES.due("acts left", prints.undo(), i);
            EDGES.due("as ahead of act " + i, State.of(prints), states[i]);
        }
    }

    private static void kindsAndGoers() {
        EDGES.says("Of a CELL: 0 its KIND now, 1 whether UNDER (1, 0). NONE: no such ones.");
        PrintsGoOn prints = Checks.shore("sw6h5;r1;gx5y4;g;g;g");
        EDGES.due("the first cell", prints.shore(0, 0), 1);
        EDGES.due("the last cell", prints.shore(29, 1), 0);
        EDGES.refused("cell 30", prints, () -> prints.shore(30, 0), NONE);
        EDGES.refused("what 2", prints, () -> prints.shore(0, 2), NONE);
        for (int out : OUT) {
            EDGES.refused("cell " + out, prints, () -> prints.shore(out, 0), NONE);
            EDGES.refused("what " + out, prints, () -> prints.shore(0, out), NONE);
        }
        PrintsGoOn small = Checks.shore("sw2h2;g");
        EDGES.refused("cell 4 of 4", small, () -> small.shore(4, 0), NONE);
        EDGES.says("NoSuchElementException: no such ones.");
        EDGES.due("the last goer", State.goer(prints, 3, 4), 0);
        EDGES.refused("goer 4", prints, () -> State.goer(prints, 4, 0), -1);
        EDGES.refused("what 5", prints, () -> State.goer(prints, 0, 5), -1);
        EDGES.refused("goer 1 of 1", small, () -> State.goer(small, 1, 0), -1);
        for (int out : OUT) {
            EDGES.refused("goer " + out, prints, () -> State.goer(prints, out, 0), -1);
            EDGES.refused("what " + out, prints, () -> State.goer(prints, 0, out), -1);
        }
        EDGES.refused("no shore", new PrintsGoOn(), () -> State.goer(new PrintsGoOn(), 0, 0), -1);
    }

    private static void lawsAndChildren() {
        EDGES.says("The LAW that holds (NONE: none). False: no such one.");
        PrintsGoOn prints = Checks.shore("g");
        EDGES.refused("0 of none", prints, () -> prints.law(0) ? 1 : 0, 0);
        EDGES.due("none", prints.law(NONE), true);
        for (int i = 0; i < 4; i++) {
            Checks.tell(prints, 1, "y:" + (i + 1));
            int last = i;
            EDGES.due("the last one", prints.law(last), true);
            EDGES.refused("one further", prints, () -> prints.law(last + 1) ? 1 : 0, 0);
            EDGES.due("it holds", prints.count(5), last);
        }
        EDGES.refused("-2", prints, () -> prints.law(-2) ? 1 : 0, 0);
        EDGES.refused("the least", prints, () -> prints.law(Integer.MIN_VALUE) ? 1 : 0, 0);
        EDGES.refused("the most", prints, () -> prints.law(Integer.MAX_VALUE) ? 1 : 0, 0);
        EDGES.due("the first", prints.law(0), true);
        EDGES.due("it holds: to the right", prints.ahead(0), 1);
        EDGES.due("it holds already", prints.law(0), true);
        EDGES.due("none again", prints.law(NONE), true);
        EDGES.due("none holds", prints.count(5), NONE);
        EDGES.says("CHILDREN (0 .. 9). False: out of bounds, it is so.");
        EDGES.refused("3 at first", prints, () -> prints.children(3) ? 1 : 0, 0);
        EDGES.due("0", prints.children(0), true);
        EDGES.refused("0 is so", prints, () -> prints.children(0) ? 1 : 0, 0);
        EDGES.due("9", prints.children(9), true);
        EDGES.refused("10", prints, () -> prints.children(10) ? 1 : 0, 0);
        for (int out : OUT) {
            EDGES.refused("" + out, prints, () -> prints.children(out) ? 1 : 0, 0);
        }
        EDGES.due("no act", prints.count(13), 0);
    }

    private static void withoutAShore() {
        PrintsGoOn prints = new PrintsGoOn();
        EDGES.says("An HOUR: MEETINGS in it. NONE: no SHORE, beyond 9,999.");
        EDGES.refused("hour", prints, prints::hour, NONE);
        EDGES.says("The TIDE: how it was. NONE: no SHORE, out of bounds, it is so.");
        EDGES.refused("tide(1)", prints, () -> prints.tide(1), NONE);
        EDGES.refused("tide(0)", prints, () -> prints.tide(0), NONE);
        EDGES.says("NONE: no such CELL, neither, PRINTS GO there, too few COINS.");
        EDGES.refused("stone", prints, () -> prints.stone(0), NONE);
        EDGES.says("NONE: no such CELL, nothing GOES there, no COIN.");
        EDGES.refused("sweep", prints, () -> prints.sweep(0), NONE);
        EDGES.says("ANEW: its CELL. NONE: no such ones, a rock there, too few COINS.");
        EDGES.refused("anew", prints, () -> prints.anew(0, 0), NONE);
        EDGES.says("COINS are given: COINS then. NONE: no SHORE, out of bounds, above 999.");
        EDGES.refused("give", prints, () -> prints.give(1), NONE);
        EDGES.says("The latest ACT is UNDONE: how many still can be. NONE: none.");
        EDGES.refused("undo", prints, prints::undo, NONE);
        EDGES.says("0 MEETINGS, 1 GONE or IN (bits), 2 the TIDE. NONE: no such ones.");
        EDGES.refused("log", prints, () -> prints.log(0, 0), NONE);
        EDGES.says("Of a CELL: 0 its KIND now, 1 whether UNDER (1, 0). NONE: no such ones.");
        EDGES.refused("shore", prints, () -> prints.shore(0, 0), NONE);
    }
}
