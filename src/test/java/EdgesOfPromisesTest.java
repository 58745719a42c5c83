/** Sentences of the document that name an edge in passing, each under its own words. */
public final class EdgesOfPromisesTest {
    private static final int NONE = PrintsGoOn.NONE;
    private static final int HIDDEN = PrintsGoOn.HIDDEN;
    private static final int[] OUT = {Integer.MIN_VALUE, -2, -1};
    private static final int WHOLE = 1000000000;
    private static final Edges EDGES = new Edges("EdgesOfPromisesTest");

    public static void main(String[] args) {
        constants();
        clausesOfAShore();
        unitsAndTruths();
        cellsOfTwoDigits();
        goingAtFirst();
        nobodyAhead();
        lettersOfALaw();
        byNumbers();
        meetingsOfARun();
        looksOfAGame();
        wind();
        next();
        tideOfAYear();
        firstDraw();
        noFault();
        hoursOfWhere();
        howItEnds();
        sightings();
        fits();
        oddsRefused();
        shares();
        eachOfAll();
        eachCount();
        textsTaken();
        goers();
        latestOfTheLog();
        stepsTold();
        refusedOfAll();
        EDGES.end();
    }

    private static void constants() {
        EDGES.says("`NONE = -1`: None; refused.");
        EDGES.due("NONE", NONE, -1);
        EDGES.says("`HIDDEN = -1000000`: Not told.");
        EDGES.due("HIDDEN", HIDDEN, -1000000);
    }

    private static void clausesOfAShore() {
        EDGES.says("A SHORE is a TEXT: CLAUSES with ; between");
        EDGES.fault(0, "g", NONE);
        EDGES.fault(0, "g;g", NONE);
        EDGES.fault(0, "gg", 1);
        EDGES.fault(0, "g g", 2);
        EDGES.fault(0, "g;", 2);
        EDGES.fault(0, ";g", 0);
        EDGES.fault(0, "g;;g", 2);
        EDGES.fault(0, "s;g", NONE);
        EDGES.fault(0, "sg", 1);
        EDGES.fault(0, "r0g", 2);
        EDGES.fault(0, "g,g", 1);
        EDGES.fault(0, "", 0);
        EDGES.fault(0, "   ", 3);
    }

    private static boolean holds(String condition) {
        PrintsGoOn prints = Checks.shore("gx2y2", "y:" + condition + "?3;y:0");
        prints.hour();
        return prints.goer(0, 1) == 3;
    }

    /** All eight of three truths: b=1 and p=1 hold at first, b=0 and p=0 do not. */
    private static void unitsAndTruths() {
        EDGES.says("CONDITION: TRUTHS with | between; TRUTH: UNITS with & between;");
        for (int bits = 0; bits < 8; bits++) {
            boolean one = (bits & 1) != 0;
            boolean two = (bits & 2) != 0;
            boolean three = (bits & 4) != 0;
            String a = one ? "b=1" : "b=0";
            String b = two ? "p=1" : "p=0";
            String c = three ? "1<2" : "2<1";
            EDGES.due(a + "|" + b + "&" + c, holds(a + "|" + b + "&" + c), one || two && three);
            EDGES.due(a + "&" + b + "|" + c, holds(a + "&" + b + "|" + c), one && two || three);
            EDGES.due("(" + a + "|" + b + ")&" + c, holds("(" + a + "|" + b + ")&" + c), (one || two) && three);
            EDGES.due("!" + a + "&" + b + "|!" + c, holds("!" + a + "&" + b + "|!" + c), !one && two || !three);
            EDGES.due("!(" + a + "&" + b + ")", holds("!(" + a + "&" + b + ")"), !(one && two));
        }
        EDGES.fault(1, "y:b=1|?2", 6);
        EDGES.fault(1, "y:b=1&?2", 6);
        EDGES.fault(1, "y:b=1||p=1?2", 6);
        EDGES.fault(1, "y:b=1&|p=1?2", 6);
        EDGES.fault(1, "y:|b=1?2", 2);
    }

    private static void cellsOfTwoDigits() {
        EDGES.says("(the CELL with that number, of two digits, is SWEPT)");
        PrintsGoOn prints = Checks.shore("gx4y1;gx3");
        Checks.tell(prints, 2, "s09;s03");
        EDGES.due("nine and three", prints.run(0, 0), NONE);
        EDGES.due("both", prints.perform(0), 2);
        EDGES.due("are gone", prints.all(4), 3);
        EDGES.fault(2, "s9", 2);
        EDGES.fault(2, "s9;h", 2);
        EDGES.fault(2, "s009", 3);
        EDGES.fault(2, "s", 1);
    }

    private static void goingAtFirst() {
        EDGES.says("it GOES (at first), is IN a hotel, or is GONE");
        PrintsGoOn prints = Checks.shore("sw4h2;r0123;gb0;gx1b0;gx2b0;gx3b0");
        for (int goer = 0; goer < 4; goer++) {
            EDGES.due("told on a cell of kind " + goer, prints.goer(goer, 4), 0);
            EDGES.due("so it ends no earlier", prints.ends(goer, 0) != 0, true);
        }
        EDGES.due("on a rock it can't be dug out", prints.stone(1), NONE);
        prints.hour();
        EDGES.due("on the rock it went on, into the water; in the water it is gone there", prints.all(4), 0b0110);
        EDGES.due("each on the water", prints.goer(1, 0) * 10 + prints.goer(2, 0), 22);
        EDGES.due("one went there", prints.goer(1, 3) * 10 + prints.goer(2, 3), 10);
        EDGES.due("on sand and at the hotel they turned, and go", prints.all(2), 0b1001);
        EDGES.due("who began at a hotel is not in", prints.all(3), 0);
    }

    private static void nobodyAhead() {
        EDGES.says("none at first: as it does");
        PrintsGoOn prints = Checks.shore("sw6h5;gx2y2b0");
        EDGES.due("no law", prints.count(5), NONE);
        Checks.tell(prints, 1, "y:b+1");
        EDGES.due("a law that is told does not hold by that", prints.count(5), NONE);
        EDGES.due("as it looks", prints.ahead(0), 8);
        prints.law(0);
        EDGES.due("by the law", prints.ahead(0), 15);
        prints.law(NONE);
        EDGES.due("none again", prints.ahead(0), 8);
    }

    private static void lettersOfALaw() {
        EDGES.says("letters: b how it LOOKS, a what is AHEAD,");
        for (int look = 0; look < 4; look++) {
            PrintsGoOn prints = Checks.shore("sw3h3;r010;r002;r030;gx1y1b" + look, "y:a");
            prints.hour();
            int lies = new int[] {1, 2, 3, 1}[look];
            EDGES.due("a to the way " + look, prints.goer(0, 1), look == 3 ? 0 : lies);
            PrintsGoOn looks = Checks.shore("sw3h3;r010;r101;r010;gx1y1b" + look, "y:b");
            looks.hour();
            EDGES.due("b", looks.goer(0, 1), look);
        }
        EDGES.says(", p PACE,");
        for (int pace = 1; pace <= 4; pace++) {
            PrintsGoOn prints = Checks.shore("sw3h3;r010;r101;r010;gx1y1p" + pace, "y:p");
            prints.hour();
            EDGES.due("p" + pace, prints.goer(0, 1), pace % 4);
        }
    }

    private static void byNumbers() {
        EDGES.says("each that GOES, by numbers:");
        PrintsGoOn prints = Checks.shore("r0203;gb1;gx4b3;gx1b3;gx4y3b3");
        EDGES.due("nobody met", prints.hour(), 0);
        EDGES.due("gone and in", prints.log(0, 1), 0b0111);
        EDGES.due("in, the second", prints.all(3), 0b0010);
        EDGES.due("each on its cell", prints.goer(0, 0) * 1000 + prints.goer(1, 0), 1003);
        EDGES.due("who began in the water is gone there", prints.goer(2, 4) * 10 + prints.goer(2, 0), 21);
        EDGES.due("the last went", prints.goer(3, 0), 18);
        EDGES.due("another hour", prints.hour(), 0);
        EDGES.due("nobody of the three in it", prints.log(0, 1), 0);
        EDGES.due("the last alone went on", prints.goer(3, 0), 17);
    }

    /** Four that stay together meet six times an hour. */
    private static void meetingsOfARun() {
        EDGES.says("(9,999 does not matter)");
        PrintsGoOn prints = Checks.shore("sw2h2;r01;r1;g;g;g;g");
        Checks.tell(prints, 2, "h;h;h;h;h;h;h;h;h;h;h;h;h;h;h;h");
        EDGES.due("six an hour", prints.run(0, 1), 96);
        for (int i = 0; i < 104; i++) {
            EDGES.due("sixteen hours", prints.perform(0), 16);
        }
        EDGES.due("nearly", prints.count(9), 9984);
        EDGES.due("in the run they go on", prints.run(0, 1), 96);
        prints.perform(0);
        EDGES.due("at most", prints.count(9), 9999);
        EDGES.due("in the run they still go on", prints.run(0, 1), 96);
        EDGES.due("an hour tells all of its own", prints.hour(), 6);
        EDGES.due("so does the log", prints.log(0, 0), 6);
        EDGES.due("at most", prints.count(9), 9999);
        EDGES.due("an act undone", prints.undo(), 39);
        EDGES.due("leaves the most", prints.count(9), 9999);
        for (int i = 0; i < 16; i++) {
            prints.undo();
        }
        EDGES.due("until the hour in which it came", prints.count(9), 9984);
    }

    private static void looksOfAGame() {
        EDGES.says("GAME of two that GO: x, y (0 .. 3) which way each is turned to LOOK now:");
        PrintsGoOn prints = Checks.shore("sw6h5;gx2y2b1;gx5y4b1");
        String before = State.of(prints);
        EDGES.due("up, and at the edge to the right", prints.game(0, 1, 0, 3, 0), 6);
        EDGES.due("left, and at the edge up", prints.game(0, 1, 0, 3, 1), 6);
        EDGES.due("both up: they meet at the corner", prints.game(0, 1, 0, 0, 0), 5 - 3);
        EDGES.due("both have less", prints.game(0, 1, 0, 0, 1), 5 - 3);
        EDGES.due("both to the right: the first down to the corner", prints.game(0, 1, 1, 1, 0), 6);
        EDGES.due("the second stays an hour in the corner", prints.game(0, 1, 1, 1, 1), 5);
        EDGES.due("x is of the first told", prints.game(1, 0, 1, 1, 0), 5);
        EDGES.due("3 is left, not turns", prints.game(0, 1, 3, 3, 0), 6);
        EDGES.refused("x 4", prints, () -> prints.game(0, 1, 4, 0, 0), HIDDEN);
        EDGES.refused("y 4", prints, () -> prints.game(0, 1, 0, 4, 0), HIDDEN);
        for (int out : OUT) {
            EDGES.refused("x " + out, prints, () -> prints.game(0, 1, out, 0, 0), HIDDEN);
            EDGES.refused("y " + out, prints, () -> prints.game(0, 1, 0, out, 0), HIDDEN);
            EDGES.refused("what " + out, prints, () -> prints.game(0, 1, 0, 0, out), HIDDEN);
        }
        EDGES.refused("what 2", prints, () -> prints.game(0, 1, 0, 0, 2), HIDDEN);
        EDGES.due("looks as it did", State.of(prints), before);
    }

    private static void wind() {
        EDGES.says("ahead of each HOUR it, if it GOES, LOOKS one further to the right by chance: of 10 to the 9 parts those by which it is on that CELL then (GONE, IN: where it was so;");
        PrintsGoOn prints = Checks.shore("sw6h5;gx2y2b0;gx5y4b3");
        EDGES.due("not turned: up", prints.odds(0, 8, 1, 25), 750000000);
        EDGES.due("turned: to the right", prints.odds(0, 15, 1, 25), 250000000);
        EDGES.due("turned once, ahead of the second", prints.odds(0, 9, 2, 25), 187500000);
        EDGES.due("turned ahead of the first alone", prints.odds(0, 16, 2, 25), 187500000);
        EDGES.due("turned twice", prints.odds(0, 21, 2, 25), 62500000);
        EDGES.due("never", prints.odds(0, 2, 2, 25), 562500000);
        EDGES.due("nowhere else", prints.odds(0, 14, 2, 25), 0);
        EDGES.due("the wind turns the one alone", prints.odds(1, 28, 1, 0), WHOLE);
        EDGES.due("a pace is within the hour", Checks.shore("sw6h5;gp4").odds(0, 24, 1, 100), WHOLE);
        PrintsGoOn hotel = Checks.shore("sw6h5;r03;g;gx5y4", "y:b");
        EDGES.due("in a hotel, unless turned at once", hotel.odds(0, 1, 3, 10), 900000000);
        EDGES.due("never turned", hotel.odds(0, 1, 6, 0), WHOLE);
        PrintsGoOn back = Checks.shore("sw6h5;r03;g;gx5y4");
        EDGES.due("turned, it may come back to it", back.odds(0, 1, 6, 10), 918100000);
        PrintsGoOn water = Checks.shore("sw6h5;r02;g", "y:b");
        EDGES.due("gone, unless turned at once", water.odds(0, 1, 3, 1), 990000000);
        EDGES.due("turned up, it turns by itself", Checks.shore("sw2h2;gb3").odds(0, 1, 1, 100), WHOLE);
    }

    private static void next() {
        EDGES.says("NEXT of a GOER: the CELL it would be on behind one STEP.");
        PrintsGoOn prints = Checks.shore("sw6h5;gx2y2p4;gx3y2b3");
        EDGES.due("one step of four", prints.ahead(0), 15);
        EDGES.due("by the way it looks", prints.ahead(1), 14);
        EDGES.due("it did not go by that", prints.goer(0, 0), 14);
        EDGES.due("nor turn", Checks.shore("sw2h2;gx1").goer(0, 1), 1);
    }

    private static void tideOfAYear() {
        EDGES.says("ahead of each: a draw of 6: the TIDE is so;");
        boolean[] came = new boolean[6];
        for (int bit = 0; bit < 64; bit++) {
            PrintsGoOn prints = Checks.shore("sw2h5;g");
            prints.children(0);
            prints.years(1, 1L << bit);
            came[prints.count(8)] = true;
            EDGES.due("the log has the tide of the hour", prints.log(0, 2), prints.count(8));
            EDGES.due("the tide was so ahead of the hour", prints.goer(0, 4), prints.count(8) == 5 ? 2 : 0);
            EDGES.due("it is for nothing", prints.count(7), 20);
            EDGES.due("one act", prints.undo(), 0);
            EDGES.due("with its tide", prints.count(8), 0);
        }
        for (int tide = 0; tide < 6; tide++) {
            EDGES.due("tide " + tide + " came", came[tide], true);
        }
    }

    private static void firstDraw() {
        EDGES.says("x, at first the seed, becomes x times 6364136223846793005 and 1442695040888963407");
        PrintsGoOn prints = Checks.shore("g");
        prints.children(0);
        prints.years(1, 0);
        EDGES.due("of 0 it is the second number", prints.count(8), (1442695040888963407L >>> 33) % 6);
        prints.undo();
        prints.years(1, 1);
        EDGES.due("of 1 it is both", prints.count(8), (6364136223846793005L + 1442695040888963407L >>> 33) % 6);
        prints.undo();
        prints.years(1, -1);
        EDGES.due("of -1 the second less the first", prints.count(8), (1442695040888963407L - 6364136223846793005L >>> 33) % 6);
    }

    private static void noFault() {
        EDGES.says("The FAULT of the TAPE as a SHORE (0), a LAW (1), an EVENING (2). NONE: none.");
        PrintsGoOn prints = new PrintsGoOn();
        String[] texts = {"g", "y:1", "h"};
        for (int text = 0; text < 3; text++) {
            for (int sort = 0; sort < 3; sort++) {
                int due = text == sort ? NONE : text == 0 && sort == 2 ? 1 : 0;
                EDGES.due(texts[text] + " as " + sort, Checks.faultOf(prints, sort, texts[text]), due);
                EDGES.due("the tape stays", prints.count(4), texts[text].length());
            }
        }
        EDGES.refused("3", prints, () -> prints.fault(3), -2);
        for (int out : OUT) {
            EDGES.refused("" + out, prints, () -> prints.fault(out), -2);
        }
    }

    private static void hoursOfWhere() {
        EDGES.says("AT n HOURS. NONE: no such GOER, out of bounds.");
        PrintsGoOn prints = Checks.shore("sw2h2;g;gx1y1;gx1;gy1b0");
        EDGES.due("the first, now", prints.where(0, 0), 0);
        EDGES.due("the last, now", prints.where(3, 0), 2);
        EDGES.due("the last, behind the most", prints.where(3, 99) != NONE, true);
        EDGES.refused("goer 4", prints, () -> prints.where(4, 0), NONE);
        EDGES.refused("100", prints, () -> prints.where(3, 100), NONE);
        EDGES.refused("the most", prints, () -> prints.where(Integer.MAX_VALUE, Integer.MAX_VALUE), NONE);
        for (int out : OUT) {
            EDGES.refused("n " + out, prints, () -> prints.where(3, out), NONE);
            EDGES.refused("goer " + out, prints, () -> prints.where(out, 0), NONE);
        }
    }

    private static void howItEnds() {
        EDGES.says("ENDS: in how many HOURS (0), how (1). NONE: not within 99, no such ones.");
        PrintsGoOn never = Checks.shore("sw2h2;g");
        EDGES.due("never", never.ends(0, 0), NONE);
        EDGES.due("never, so not how", never.ends(0, 1), NONE);
        PrintsGoOn prints = Checks.shore("sw4h4;r03;g;gx1y3b3;gx2y2b1");
        EDGES.due("the first: in an hour", prints.ends(0, 0), 1);
        EDGES.due("in", prints.ends(0, 1), 1);
        prints.tide(1);
        EDGES.due("the tide is over the second: in an hour", prints.ends(1, 0), 1);
        EDGES.due("gone", prints.ends(1, 1), 2);
        EDGES.due("the third turns down at the edge: in two", prints.ends(2, 0), 2);
        EDGES.due("gone, too", prints.ends(2, 1), 2);
        EDGES.refused("goer 3", prints, () -> prints.ends(3, 0), NONE);
        EDGES.refused("what 2", prints, () -> prints.ends(0, 2), NONE);
    }

    private static void sightings() {
        EDGES.says("SEEN: how many there are. NONE: no such ones, out of bounds, there are ten.");
        PrintsGoOn prints = Checks.shore("sw2h2;g;gx1y1");
        EDGES.refused("goer 2", prints, () -> prints.seen(2, 0, 0), NONE);
        EDGES.refused("31 hours", prints, () -> prints.seen(0, 31, 0), NONE);
        EDGES.refused("cell 4 of 4", prints, () -> prints.seen(0, 0, 4), NONE);
        for (int out : OUT) {
            EDGES.refused("goer " + out, prints, () -> prints.seen(out, 0, 0), NONE);
            EDGES.refused("hours " + out, prints, () -> prints.seen(0, out, 0), NONE);
            EDGES.refused("cell " + out, prints, () -> prints.seen(0, 0, out), NONE);
        }
        EDGES.refused("no shore", new PrintsGoOn(), () -> new PrintsGoOn().seen(0, 0, 0), NONE);
        EDGES.due("at 0 hours, on the first cell", prints.seen(0, 0, 0), 1);
        EDGES.due("at 30, on the last, of the last", prints.seen(1, 30, 3), 2);
        for (int i = 3; i <= 10; i++) {
            EDGES.due("the same once more counts", prints.seen(0, 0, 0), i);
        }
        EDGES.refused("an eleventh", prints, () -> prints.seen(0, 0, 0), NONE);
        EDGES.due("ten", prints.count(11), 10);
        prints.image();
        EDGES.refused("an eleventh of the other", prints, () -> prints.seen(1, 0, 3), NONE);
        prints.back();
        EDGES.due("ten still", prints.count(11), 10);
    }

    private static void fits() {
        EDGES.says("FITS: how many (i NONE), the i-th. NONE: no such one, no such GOER.");
        PrintsGoOn prints = Checks.shore("sw6h5;gx2y2");
        for (int i = 0; i < 16; i++) {
            EDGES.due("nothing was seen: the " + i + "th", prints.fits(0, i), 10 * (i / 4 + 1) + i % 4);
        }
        EDGES.due("all of them", prints.fits(0, NONE), 16);
        EDGES.refused("a 17th", prints, () -> prints.fits(0, 16), NONE);
        EDGES.refused("-2", prints, () -> prints.fits(0, -2), NONE);
        EDGES.refused("the least", prints, () -> prints.fits(0, Integer.MIN_VALUE), NONE);
        EDGES.refused("the most", prints, () -> prints.fits(0, Integer.MAX_VALUE), NONE);
        EDGES.refused("goer 1", prints, () -> prints.fits(1, NONE), NONE);
        for (int out : OUT) {
            EDGES.refused("goer " + out, prints, () -> prints.fits(out, NONE), NONE);
        }
        EDGES.refused("no shore", new PrintsGoOn(), () -> new PrintsGoOn().fits(0, NONE), NONE);
        prints.seen(0, 1, 29);
        EDGES.due("nothing fits", prints.fits(0, NONE), 0);
        EDGES.refused("so no first", prints, () -> prints.fits(0, 0), NONE);
    }

    private static void oddsRefused() {
        EDGES.says("ODDS. NONE: no such ones, out of bounds.");
        PrintsGoOn prints = Checks.shore("sw2h2;g");
        EDGES.due("6 hours, chance 100", prints.odds(0, 0, 6, 100) != NONE, true);
        EDGES.refused("7 hours", prints, () -> prints.odds(0, 0, 7, 0), NONE);
        EDGES.refused("chance 101", prints, () -> prints.odds(0, 0, 0, 101), NONE);
        EDGES.refused("cell 4 of 4", prints, () -> prints.odds(0, 4, 0, 0), NONE);
        EDGES.refused("goer 1", prints, () -> prints.odds(1, 0, 0, 0), NONE);
    }

    private static void shares() {
        EDGES.says("SHARES. NONE: no such GOER, out of bounds.");
        PrintsGoOn prints = Checks.shore("sw2h2;g;gx1y1b3");
        EDGES.due("nobody went", prints.shares(0, 999), 0);
        prints.hour();
        EDGES.due("half, cut", prints.shares(1, 999), 499);
        EDGES.due("of nothing", prints.shares(1, 0), 0);
        EDGES.refused("1000", prints, () -> prints.shares(0, 1000), NONE);
        EDGES.refused("-1", prints, () -> prints.shares(0, -1), NONE);
        EDGES.refused("goer 2", prints, () -> prints.shares(2, 0), NONE);
    }

    private static void eachOfAll() {
        EDGES.says("FARTHEST (0), SWIFTEST (1), GOING (2, bits), IN (3, bits), GONE (4, bits), DRY (5), PARTS (6), CROWD (7), BUSY (8, bits), FACED (9).");
        PrintsGoOn prints = Checks.shore("sw5h3t1;r01003;r01000;gy1;gx3b1p3;gx2b2;gx3y1b3");
        due(prints, 0, 1, 0b1111, 0, 0, 8, 2, 1, 1 << 5 | 1 << 3 | 1 << 2 | 1 << 8, 0);
        prints.hour();
        due(prints, 0, 1, 0b1100, 0b0010, 0b0001, 8, 2, 2, 1 << 7, 0);
        PrintsGoOn faced = Checks.shore("sw6h5;r11111;r1;gx5y4b0;gx5y3b2p4;gx5y2b2p2;gx0y2p3");
        due(faced, 0, 1, 0b1111, 0, 0, 24, 1, 1, 1 << 29 | 1 << 23 | 1 << 17 | 1 << 12, 1);
    }

    private static void due(PrintsGoOn prints, int... due) {
        for (int what = 0; what < due.length; what++) {
            EDGES.due("all(" + what + ") at hour " + prints.count(6), prints.all(what), due[what]);
        }
    }

    private static void eachCount() {
        EDGES.says("0 CELLS, 1 GOERS, 2 LAWS, 3 EVENINGS, 4 bytes of the TAPE, 5 the LAW that holds (NONE), 6 the HOUR, 7 COINS, 8 the TIDE, 9 MEETINGS, 10 CHILDREN, 11 SEEN,");
        PrintsGoOn prints = Checks.shore("sw6h5t1c44;g;g;gx2y2");
        Checks.tell(prints, 1, "y:0");
        Checks.tell(prints, 1, "y:b");
        Checks.tell(prints, 2, "h");
        prints.law(1);
        prints.children(8);
        prints.seen(0, 0, 0);
        prints.seen(0, 0, 0);
        Checks.type(prints, "abcde");
        prints.hour();
        prints.hour();
        int[] due = {30, 3, 2, 1, 5, 1, 2, 44, 1, 2, 8, 2, 2, 2};
        for (int what = 0; what < due.length; what++) {
            EDGES.due("count(" + what + ")", prints.count(what), due[what]);
        }
    }

    private static void textsTaken() {
        EDGES.says("The TAPE (empty then) is the SHORE (HOUR 0, all GO;");
        PrintsGoOn prints = Checks.shore("sw2h2;r33;g;gx1b3");
        EDGES.due("the tape is empty", prints.count(4), 0);
        prints.hour();
        EDGES.due("both in", prints.all(3), 3);
        EDGES.due("an hour", prints.count(6), 1);
        EDGES.due("another shore: its cells", Checks.tell(prints, 0, "sw3h2;g;gx1;gx2"), 6);
        EDGES.due("the tape is empty", prints.count(4), 0);
        EDGES.due("hour 0", prints.count(6), 0);
        EDGES.due("all go", prints.all(2), 7);
        EDGES.due("the most cells", Checks.tell(prints, 0, "sw6h5;g"), 30);
        EDGES.due("the fewest", Checks.tell(prints, 0, "sw2h2;g"), 4);
        EDGES.due("as it is", Checks.tell(prints, 0, "g"), 20);
    }

    private static void goers() {
        EDGES.says("0 the CELL, 1 how it LOOKS, 2 PACE, 3 how many CELLS it went, 4 whether it GOES (0), is IN (1), GONE (2), all as now.");
        PrintsGoOn prints = Checks.shore("sw6h5;r000003;gx1y1b2p3;gx4;gx5y4b0p4");
        goer(prints, 0, 7, 2, 3, 0, 0);
        goer(prints, 1, 4, 1, 1, 0, 0);
        goer(prints, 2, 29, 0, 4, 0, 0);
        prints.hour();
        goer(prints, 0, 25, 2, 3, 3, 0);
        goer(prints, 1, 5, 1, 1, 1, 1);
        goer(prints, 2, 5, 0, 4, 4, 1);
        prints.hour();
        goer(prints, 0, 12, 0, 3, 6, 0);
        prints.sweep(12);
        goer(prints, 0, 12, 0, 3, 6, 2);
        prints.anew(0, 1);
        goer(prints, 0, 7, 1, 3, 0, 0);
        prints.undo();
        goer(prints, 0, 12, 0, 3, 6, 2);
    }

    private static void goer(PrintsGoOn prints, int goer, int... due) {
        for (int what = 0; what < due.length; what++) {
            EDGES.due("goer(" + goer + ", " + what + ")", State.goer(prints, goer, what), due[what]);
        }
    }

    private static void latestOfTheLog() {
        EDGES.says("LOG, the latest (i 0), the one ahead of it (1) ..:");
        PrintsGoOn prints = Checks.shore("sw6h5;r03;g;gx5y4b3;gx3y4b1");
        prints.hour();
        prints.tide(2);
        prints.hour();
        int[][] due = {{0, 0b110, 2}, {1, 0b001, 0}};
        for (int i = 0; i < 2; i++) {
            for (int what = 0; what < 3; what++) {
                EDGES.due("log(" + i + ", " + what + ")", prints.log(i, what), due[i][what]);
            }
        }
        EDGES.refused("there are two", prints, () -> prints.log(2, 0), NONE);
        prints.undo();
        EDGES.due("the first is the latest", prints.log(0, 1), 1);
        EDGES.refused("and the only one", prints, () -> prints.log(1, 0), NONE);
        prints.undo();
        EDGES.due("a tide has no part in it", prints.count(12), 1);
        prints.undo();
        EDGES.refused("none", prints, () -> prints.log(0, 0), NONE);
    }

    private static void stepsTold() {
        EDGES.says("A STEP of an EVENING: 0 what (0 h, 1 g, 2 t, 3 s),");
        PrintsGoOn prints = new PrintsGoOn();
        EDGES.due("the first evening", Checks.tell(prints, 2, "h;g31;t4;s28"), 0);
        EDGES.due("the second", Checks.tell(prints, 2, "s 0 1;t 0;g 0 0;h"), 1);
        for (int i = 0; i < 4; i++) {
            EDGES.due("step " + i, prints.step(0, i, 0), i);
            EDGES.due("backwards, step " + i, prints.step(1, i, 0), 3 - i);
        }
        EDGES.due("its digit", prints.step(0, 1, 1), 3);
        EDGES.due("the second one", prints.step(0, 1, 2), 1);
        EDGES.due("the number of two", prints.step(0, 3, 1), 28);
        EDGES.due("0 ahead", prints.step(1, 0, 1), 1);
    }

    /** Once each, where the shore is there and where it is not; TwinTest does so by draws. */
    private static void refusedOfAll() {
        EDGES.says("What is refused answers as told and changes nothing.");
        PrintsGoOn prints = Checks.shore("sw3h3c0;r03;gb0;gx2y2;gx2", "y:a=1?b+1;y:b");
        Checks.tell(prints, 2, "h;t1");
        Checks.type(prints, "x");
        prints.seen(1, 3, 2);
        prints.image();
        prints.hour();
        EDGES.due("it is in", prints.goer(0, 4), 1);
        EDGES.refused("no room", prints, () -> prints.end(2) ? 1 : 0, 0);
        EDGES.refused("a fault", prints, () -> prints.text(0), NONE);
        EDGES.refused("no law", prints, () -> prints.law(1) ? 1 : 0, 0);
        EDGES.refused("children as they are", prints, () -> prints.children(3) ? 1 : 0, 0);
        EDGES.refused("the tide as it is", prints, () -> prints.tide(0), NONE);
        EDGES.refused("no coins for a rock", prints, () -> prints.stone(4), NONE);
        EDGES.refused("no coin to sweep", prints, () -> prints.sweep(5), NONE);
        EDGES.refused("no coins to begin", prints, () -> prints.anew(0, 0), NONE);
        EDGES.refused("no coins given", prints, () -> prints.give(0), NONE);
        EDGES.refused("no years", prints, () -> prints.years(0, 1), NONE);
        EDGES.refused("one is in", prints, () -> prints.game(0, 1, 0, 0, 0), HIDDEN);
        EDGES.refused("one is in, rests", prints, () -> prints.rests(1, 0, NONE), NONE);
        EDGES.refused("in, it has no next", prints, () -> prints.ahead(0), NONE);
        EDGES.refused("in, it is never so again", prints, () -> prints.again(0), NONE);
        EDGES.refused("no such goer", prints, () -> State.goer(prints, 3, 0), NONE);
        PrintsGoOn none = new PrintsGoOn();
        EDGES.refused("no hour", none, none::hour, NONE);
        EDGES.refused("no image", none, none::image, NONE);
        EDGES.refused("no way back", none, none::back, NONE);
        EDGES.refused("nothing done", none, none::undo, NONE);
        EDGES.refused("an empty tape", none, () -> none.text(2), NONE);
        EDGES.refused("no coins of no shore", none, () -> none.give(1), NONE);
        EDGES.refused("no years of no shore", none, () -> none.years(1, 1), NONE);
    }
}
