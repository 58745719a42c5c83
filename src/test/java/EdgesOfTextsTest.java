/** What the document says of the edges of texts: Terms 1, and promises 1 to 5. */
public final class EdgesOfTextsTest {
    private static final int SHORE = 0;
    private static final int LAW = 1;
    private static final int EVENING = 2;
    private static final int NONE = PrintsGoOn.NONE;
    private static final Edges EDGES = new Edges("EdgesOfTextsTest");

    public static void main(String[] args) {
        feeding();
        ending();
        sorts();
        fourOfEach();
        anotherShore();
        clausesOfAShore();
        rules();
        goers();
        rows();
        clausesOfALaw();
        numbersOfALaw();
        within();
        deep();
        firstClause();
        steps();
        blanks();
        earlyEnds();
        wrongNumbers();
        tooMany();
        whatAStepTells();
        readAgain();
        EDGES.end();
    }

    private static PrintsGoOn typed(String text) {
        PrintsGoOn prints = new PrintsGoOn();
        Checks.type(prints, text);
        return prints;
    }

    private static int cells(String text) {
        return Checks.tell(new PrintsGoOn(), SHORE, text);
    }

    private static void feeding() {
        EDGES.says("(of each number the highest first; bytes of 0 are left out): how many it has.");
        PrintsGoOn prints = new PrintsGoOn();
        EDGES.due("nothing but zeros", prints.feed(0, 0, 0, 0, 0), 0);
        EDGES.due("the last byte of the last number alone", prints.feed(0, 0, 0, 0, 'g'), 1);
        EDGES.due("zeros between", prints.feed('x' << 24 | '2', 0, ';' << 16, 'g' << 8, 'x' << 24), 6);
        EDGES.due("the first byte of the first number alone", prints.feed('3' << 24, 0, 0, 0, 0), 7);
        EDGES.due("it is gx2;gx3", prints.text(SHORE), 20);
        EDGES.due("gx2", prints.goer(0, 0), 2);
        EDGES.due("gx3", prints.goer(1, 0), 3);
        EDGES.due("the sign's bit is one of a byte", prints.feed(Integer.MIN_VALUE, 0x80, 0, 0, 0), 2);
        EDGES.due("all bits are four bytes", prints.feed(-1, 0, 0, 0, 0), 6);
        EDGES.says("NONE: more than 240.");
        PrintsGoOn full = typed("p".repeat(220));
        EDGES.due("220", full.count(4), 220);
        EDGES.due("20 more are 240", full.feed(-1, -1, -1, -1, -1), 240);
        EDGES.due("240 are no more than 240", full.feed(0, 0, 0, 0, 0), 240);
        EDGES.refused("241", full, () -> full.feed(1 << 24, 0, 0, 0, 0), NONE);
        EDGES.refused("260", full, () -> full.feed(-1, -1, -1, -1, -1), NONE);
        PrintsGoOn nearly = typed("p".repeat(239));
        EDGES.refused("239 and two: none comes", nearly, () -> nearly.feed(0, 0, 0x707000, 0, 0), NONE);
        EDGES.due("239 and one", nearly.feed(0, 0, 0, 0, 0x70), 240);
    }

    private static void ending() {
        EDGES.says("The TAPE has its first n bytes alone. False: n.");
        PrintsGoOn prints = new PrintsGoOn();
        EDGES.due("none of none", prints.end(0), true);
        EDGES.refused("1 of none", prints, () -> prints.end(1) ? 1 : 0, 0);
        PrintsGoOn whole = typed("g;g");
        EDGES.refused("4 of 3", whole, () -> whole.end(4) ? 1 : 0, 0);
        EDGES.refused("-1", whole, () -> whole.end(-1) ? 1 : 0, 0);
        EDGES.refused("the least", whole, () -> whole.end(Integer.MIN_VALUE) ? 1 : 0, 0);
        EDGES.refused("the most", whole, () -> whole.end(Integer.MAX_VALUE) ? 1 : 0, 0);
        EDGES.due("3 of 3", whole.end(3), true);
        EDGES.due("all are there", whole.count(4), 3);
        EDGES.due("2 of 3", whole.end(2), true);
        EDGES.due("g;", whole.fault(SHORE), 2);
        EDGES.due("what was cut off does not come again", whole.end(3), false);
        EDGES.due("none of 2", whole.end(0), true);
        EDGES.due("none is left", whole.count(4), 0);
    }

    private static void sorts() {
        EDGES.says("-2: no such sort.");
        PrintsGoOn prints = typed("g");
        for (int sort : new int[] {-1, -2, 3, Integer.MIN_VALUE, Integer.MAX_VALUE}) {
            EDGES.refused("fault(" + sort + ")", prints, () -> prints.fault(sort), -2);
        }
        EDGES.says("NONE: a FAULT, no such sort, there are four.");
        for (int sort : new int[] {-1, -2, 3, Integer.MIN_VALUE, Integer.MAX_VALUE}) {
            EDGES.refused("text(" + sort + ")", prints, () -> prints.text(sort), NONE);
        }
        EDGES.refused("a fault as a law", prints, () -> prints.text(LAW), NONE);
        EDGES.refused("a fault as an evening", prints, () -> prints.text(EVENING), NONE);
        EDGES.due("as a shore it has none", prints.text(SHORE), 20);
        EDGES.refused("nothing as a shore", prints, () -> prints.text(SHORE), NONE);
        EDGES.refused("nothing as a law", prints, () -> prints.text(LAW), NONE);
        EDGES.refused("nothing as an evening", prints, () -> prints.text(EVENING), NONE);
    }

    private static void fourOfEach() {
        EDGES.says("LAWS (4 at most) are TEXTS");
        PrintsGoOn prints = new PrintsGoOn();
        for (int i = 0; i < 4; i++) {
            EDGES.due("law " + i, Checks.tell(prints, LAW, "y:" + i), i);
        }
        Checks.type(prints, "y:1");
        EDGES.refused("a fifth law", prints, () -> prints.text(LAW), NONE);
        EDGES.due("it has no fault", prints.fault(LAW), NONE);
        EDGES.says("EVENINGS (4 at most) are TEXTS");
        for (int i = 0; i < 4; i++) {
            EDGES.due("evening " + i, Checks.tell(prints, EVENING, "t" + i), i);
        }
        Checks.type(prints, "h");
        EDGES.refused("a fifth evening", prints, () -> prints.text(EVENING), NONE);
        EDGES.due("it has no fault", prints.fault(EVENING), NONE);
        EDGES.says("(HOUR 0, all GO; all that was of another one, SEEN, too, is gone but LAWS, which holds, EVENINGS, CHILDREN)");
        for (int i = 0; i < 6; i++) {
            EDGES.due("shores have no most", Checks.tell(prints, SHORE, "sw6;g"), 24);
        }
        EDGES.due("four laws are left", prints.count(2), 4);
        EDGES.due("four evenings are left", prints.count(3), 4);
    }

    private static void anotherShore() {
        EDGES.says("all that was of another one, SEEN, too, is gone but LAWS, which holds, EVENINGS, CHILDREN");
        PrintsGoOn prints = Checks.shore("sw6h5t1c9;r1;r000003;r333333;r333333;r333333;gx1y0p4;gx1y0p4", "y:1");
        prints.children(9);
        prints.hour();
        prints.seen(0, 3, 4);
        prints.image();
        EDGES.due("they met", prints.count(9), 1);
        EDGES.due("another", Checks.tell(prints, SHORE, "sw3h2;r0;gx1y1"), 6);
        int[] counts = {6, 1, 1, 0, 0, 0, 0, 20, 0, 0, 9, 0, 0, 0};
        for (int what = 0; what < counts.length; what++) {
            EDGES.due("count(" + what + ")", prints.count(what), counts[what]);
        }
        for (int cell = 0; cell < 6; cell++) {
            EDGES.due("cell " + cell, prints.shore(cell, 0), 0);
            EDGES.due("cell " + cell + " is dry", prints.shore(cell, 1), 0);
        }
        int[] goer = {4, 1, 1, 0, 0};
        for (int what = 0; what < 5; what++) {
            EDGES.due("goer(0, " + what + ")", prints.goer(0, what), goer[what]);
        }
        EDGES.refused("log", prints, () -> prints.log(0, 0), NONE);
        EDGES.refused("undo", prints, prints::undo, NONE);
        EDGES.refused("back", prints, prints::back, NONE);
        EDGES.refused("the second goer", prints, () -> State.goer(prints, 1, 0), -1);
        EDGES.due("nothing was seen: all fits", prints.fits(0, -1), 16);
    }

    private static void clausesOfAShore() {
        EDGES.says("s (its RULES; one at most)");
        EDGES.fault(SHORE, "g", NONE);
        EDGES.fault(SHORE, "s;g", NONE);
        EDGES.fault(SHORE, "s;g;s", 4);
        EDGES.fault(SHORE, "sw5;r;s;g", 6);
        EDGES.says("r (a ROW of cells; none to 5)");
        EDGES.fault(SHORE, "g;r", NONE);
        EDGES.fault(SHORE, "sh5;r;r;r;r;r;g", NONE);
        EDGES.fault(SHORE, "sh5;r;r;r;r;r;r;g", 14);
        EDGES.says("g (a GOER; 1 .. 4)");
        EDGES.fault(SHORE, "r", 1);
        EDGES.fault(SHORE, "g;g;g;g", NONE);
        EDGES.fault(SHORE, "g;r;g;g;g;g", 10);
        EDGES.says("in any order");
        EDGES.due("a goer, a row, the rules", cells("gx1;r01;sw2h2"), 4);
        EDGES.due("a row, the rules, a goer, a row", cells("r01;sw2h2;gx1;r1"), 4);
        EDGES.says("ITEMS, none or more: a letter, each once at most in a CLAUSE, and a number (one or two digits)");
        EDGES.fault(SHORE, "s;g", NONE);
        EDGES.fault(SHORE, "sc1t1h2w2;gp1b1y1x1", NONE);
        EDGES.fault(SHORE, "gx1;gx1", NONE);
        EDGES.fault(SHORE, "gx1y1x1", 5);
        EDGES.fault(SHORE, "sw5h4w5;g", 5);
        EDGES.fault(SHORE, "st0c0t0;g", 5);
        EDGES.fault(SHORE, "gb", 2);
        EDGES.fault(SHORE, "gb1", NONE);
        EDGES.fault(SHORE, "gb01", NONE);
        EDGES.fault(SHORE, "gb001", 4);
    }

    /** A number within or out of bounds: NONE, or the place where it is wrong. */
    private static void number(String letter, int number, boolean within) {
        String text = letter.charAt(0) + "" + letter.charAt(1) + number;
        String shore = letter.charAt(0) == 'g' ? "sw6h5;" + text : text + ";g";
        int lastDigit = shore.indexOf(text) + text.length() - 1;
        EDGES.fault(SHORE, shore, within ? NONE : lastDigit);
    }

    private static void numbers(String letter, int least, int most) {
        for (int number = 0; number < 100; number++) {
            number(letter, number, number >= least && number <= most);
        }
    }

    private static void rules() {
        EDGES.says("w how WIDE it is (2 .. 6; 5 without)");
        numbers("sw", 2, 6);
        EDGES.due("2", cells("sw2;g"), 8);
        EDGES.due("6", cells("sw6;g"), 24);
        EDGES.due("without", cells("s;g"), 20);
        EDGES.says("h how many ROWS (2 .. 5; 4)");
        numbers("sh", 2, 5);
        EDGES.due("2", cells("sh2;g"), 10);
        EDGES.due("5", cells("sh5;g"), 25);
        EDGES.due("both the least", cells("sw2h2;g"), 4);
        EDGES.due("both the most", cells("sw6h5;g"), 30);
        EDGES.says("t the TIDE (0 .. 5; 0)");
        numbers("st", 0, 5);
        EDGES.due("0", Checks.shore("st0;g").count(8), 0);
        EDGES.due("5", Checks.shore("st5;g").count(8), 5);
        EDGES.due("without", Checks.shore("sw2;g").count(8), 0);
        EDGES.due("more than there are rows", Checks.shore("st5h2;g").shore(0, 1), 1);
        EDGES.says("c COINS (0 .. 99; 20)");
        numbers("sc", 0, 99);
        EDGES.due("0", Checks.shore("sc0;g").count(7), 0);
        EDGES.due("99", Checks.shore("sc99;g").count(7), 99);
        EDGES.due("without", Checks.shore("g").count(7), 20);
    }

    private static void goers() {
        EDGES.says("x, y where (0 .. 5, 0 .. 4; 0 each)");
        numbers("gx", 0, 5);
        numbers("gy", 0, 4);
        EDGES.due("without", Checks.shore("g").goer(0, 0), 0);
        EDGES.due("the last cell", Checks.shore("sw6h5;gx5y4").goer(0, 0), 29);
        EDGES.due("x without y", Checks.shore("sw6h5;gx5").goer(0, 0), 5);
        EDGES.due("y without x", Checks.shore("sw6h5;gy4").goer(0, 0), 24);
        EDGES.says("b which way it LOOKS (0 up: to a lower ROW, 1 to the right, 2 down, 3 to the left; 1)");
        numbers("gb", 0, 3);
        EDGES.due("without", Checks.shore("g").goer(0, 1), 1);
        int[] next = {7, 13, 17, 11};
        for (int look = 0; look < 4; look++) {
            PrintsGoOn prints = Checks.shore("gx2y2b" + look);
            EDGES.due("looks " + look, prints.goer(0, 1), look);
            EDGES.due("next of " + look, prints.ahead(0), next[look]);
        }
        EDGES.says("p PACE (1 .. 4; 1)");
        numbers("gp", 1, 4);
        EDGES.due("without", Checks.shore("g").goer(0, 2), 1);
        EDGES.due("4", Checks.shore("gp4").goer(0, 2), 4);
    }

    private static void kinds(String shore, int... kinds) {
        PrintsGoOn prints = Checks.shore(shore);
        for (int cell = 0; cell < kinds.length; cell++) {
            EDGES.due(shore + ", cell " + cell, prints.shore(cell, 0), kinds[cell]);
        }
    }

    private static void rows() {
        EDGES.says("KINDS of its CELLS from the left (none to 6 digits, 0 .. 3 each: 0 sand, 1 rock, 2 water, 3 a hotel)");
        EDGES.fault(SHORE, "r;g", NONE);
        EDGES.fault(SHORE, "r0;g", NONE);
        EDGES.fault(SHORE, "sw6;r012301;g", NONE);
        EDGES.fault(SHORE, "r4;g", 1);
        EDGES.fault(SHORE, "r9;g", 1);
        EDGES.fault(SHORE, "r33334;g", 5);
        kinds("sw6h2;r012301;r321032;g", 0, 1, 2, 3, 0, 1, 3, 2, 1, 0, 3, 2);
        EDGES.says("those not told are sand, ROWS likewise.");
        kinds("sw3h3;r1;r;g", 1, 0, 0, 0, 0, 0, 0, 0, 0);
        kinds("sw3h3;r;r11;g", 0, 0, 0, 1, 1, 0, 0, 0, 0);
        kinds("sw2h2;g", 0, 0, 0, 0);
    }

    private static void clausesOfALaw() {
        EDGES.says("CLAUSES with ; between, one at least: y, : , perhaps CONDITION ?, then SUM.");
        EDGES.fault(LAW, "", 0);
        EDGES.fault(LAW, ";", 0);
        EDGES.fault(LAW, "y:0", NONE);
        EDGES.fault(LAW, "y:0;", 4);
        EDGES.fault(LAW, "y:0;;y:0", 4);
        EDGES.fault(LAW, "y:?0", 2);
        EDGES.fault(LAW, "y:b=1?", 6);
        EDGES.fault(LAW, "y:b=1?0?0", 7);
        EDGES.fault(LAW, "y:0;".repeat(59) + "y:0", NONE);
        EDGES.fault(LAW, "y:0;".repeat(60), 240);
        EDGES.says("UNIT: ! UNIT, ( CONDITION ), or SUM, one of = < >, SUM.");
        EDGES.fault(LAW, "y:b?0", 3);
        EDGES.fault(LAW, "y:b==1?0", 4);
        EDGES.fault(LAW, "y:b<1<2?0", 5);
        EDGES.fault(LAW, "y:()?0", 3);
        EDGES.fault(LAW, "y:b=1&?0", 6);
        EDGES.fault(LAW, "y:b=1|?0", 6);
        EDGES.fault(LAW, "y:!?0", 3);
        EDGES.says("SUM: TERMS with + or - between; TERM: ATOMS with * or / between; ATOM: a number (1 to 4 digits), a letter (b a r p n t), [ SUM ].");
        EDGES.fault(LAW, "y:b+a-r*p/n+t", NONE);
        EDGES.fault(LAW, "y:+b", 2);
        EDGES.fault(LAW, "y:b+", 4);
        EDGES.fault(LAW, "y:b+*a", 4);
        EDGES.fault(LAW, "y:ba", 3);
        EDGES.fault(LAW, "y:1b", 3);
        EDGES.fault(LAW, "y:[]", 3);
        EDGES.fault(LAW, "y:[b", 4);
        EDGES.fault(LAW, "y:c", 2);
        EDGES.says("(A CLAUSE that goes on with ! or ( behind its : has a CONDITION.)");
        EDGES.fault(LAW, "y:(b)", 4);
        EDGES.fault(LAW, "y:(b=1)", 7);
        EDGES.fault(LAW, "y:(b=1)+1", 7);
        EDGES.fault(LAW, "y:(b=1);y:1", 7);
        EDGES.fault(LAW, "y:!b", 4);
        EDGES.fault(LAW, "y:!b=1", 6);
        EDGES.fault(LAW, "y:!b=1;y:1", 6);
        EDGES.fault(LAW, "y:!b+1?1", 6);
        EDGES.fault(LAW, "y:!b=1?1", NONE);
        EDGES.fault(LAW, "y:(b=1)?1", NONE);
    }

    /** The way it looks behind an hour by this law. */
    private static int look(String law) {
        PrintsGoOn prints = Checks.shore("gx2y2", law);
        prints.hour();
        return prints.goer(0, 1);
    }

    private static void numbersOfALaw() {
        EDGES.says("a number (1 to 4 digits)");
        EDGES.fault(LAW, "y:", 2);
        EDGES.fault(LAW, "y:1", NONE);
        EDGES.fault(LAW, "y:9999", NONE);
        EDGES.fault(LAW, "y:0000", NONE);
        EDGES.fault(LAW, "y:10000", 6);
        EDGES.fault(LAW, "y:b=1?00000", 10);
        EDGES.fault(LAW, "y:b=00000?1", 8);
        EDGES.due("9999 is 3 modulo 4", look("y:9999"), 3);
        EDGES.due("0001", look("y:0001"), 1);
    }

    private static void within() {
        EDGES.says("Behind each sign numbers are within -1,000,000 .. 1,000,000");
        EDGES.due("999,999", look("y:1000*1000-1"), 3);
        EDGES.due("1,000,000", look("y:1000*1000"), 0);
        EDGES.due("1,000,001", look("y:1000*1000+1"), 0);
        EDGES.due("back from beyond", look("y:1000*1000+2-1"), 3);
        EDGES.due("-999,999", look("y:0-1000*1000+1"), 1);
        EDGES.due("-1,000,001", look("y:0-1000*1000-1"), 0);
        EDGES.due("back from below", look("y:0-1000*1000-2+1"), 1);
        EDGES.due("a product beyond", look("y:1001*1001"), 0);
        EDGES.due("a product below", look("y:[0-1001]*1001"), 0);
        EDGES.due("a product that would go round", look("y:9999*9999*9999-1"), 3);
        EDGES.due("the most times the most", look("y:9999*9999*[9999*9999]-1"), 3);
        EDGES.due("the least times the most", look("y:[0-9999*9999]*[9999*9999]+1"), 1);
        EDGES.says("/ cuts towards 0, by 0 gives 0.");
        EDGES.due("7/2", look("y:7/2"), 3);
        EDGES.due("-7/2 is -3", look("y:[0-7]/2"), 1);
        EDGES.due("7/-2 is -3", look("y:7/[0-2]"), 1);
        EDGES.due("-7/-2 is 3", look("y:[0-7]/[0-2]"), 3);
        EDGES.due("1/2", look("y:1/2"), 0);
        EDGES.due("7/0", look("y:7/0"), 0);
        EDGES.due("7/0+3", look("y:7/0+3"), 3);
        EDGES.due("0/0", look("y:0/0+1"), 1);
        EDGES.due("by what comes to 0", look("y:7/[b-b]+2"), 2);
        EDGES.due("the least by -1", look("y:[0-1000*1000]/[0-1]-1"), 3);
    }

    private static void deep() {
        EDGES.says("At most six of ( [ ! within one another.");
        EDGES.fault(LAW, "y:[[[[[[b]]]]]]", NONE);
        EDGES.fault(LAW, "y:[[[[[[[b]]]]]]]", 8);
        EDGES.fault(LAW, "y:((((((b=1))))))?1", NONE);
        EDGES.fault(LAW, "y:(((((((b=1)))))))?1", 8);
        EDGES.fault(LAW, "y:!!!!!!b=1?1", NONE);
        EDGES.fault(LAW, "y:!!!!!!!b=1?1", 8);
        EDGES.fault(LAW, "y:!(!([[b]]=1))?1", NONE);
        EDGES.fault(LAW, "y:!(!([[[b]]]=1))?1", 8);
        EDGES.fault(LAW, "y:!(!(!(b=1)))?1", NONE);
        EDGES.fault(LAW, "y:!(!(!([b]=1)))?1", 8);
        EDGES.fault(LAW, "y:!(!(!((b=1))))?1", 8);
        EDGES.fault(LAW, "y:!(!(!(b=1&!b=2)))?1", 12);
        EDGES.fault(LAW, "y:!(!(!(b=[1])))?1", 10);
        EDGES.fault(LAW, "y:1;y:b=[[[[[[[1", 14);
        EDGES.fault(LAW, "y:b=1?[[[[[[[1", 12);
        EDGES.fault(LAW, "y:!!!!!![b]=1?1", 8);
        EDGES.fault(LAW, "y:!b=1&!b=2&!b=3|!b=4|!b=5|!b=6|!b=7?1", NONE);
        EDGES.fault(LAW, "y:[b]+[b]*[b]-[b]/[b]+[b]+[b]", NONE);
        EDGES.fault(LAW, "y:(b=1)&(b=1)|(b=1)&(b=1)&(b=1)&(b=1)&(b=1)?1", NONE);
        EDGES.fault(LAW, "y:[[[[[[b]]]]]]=1?[[[[[[b]]]]]];y:!!!!!!b=1?1", NONE);
    }

    private static void firstClause() {
        EDGES.says("the SUM of the first CLAUSE whose CONDITION holds (or has none), 0 without.");
        EDGES.due("the first of two that hold", look("y:b=1?2;y:b=1?3"), 2);
        EDGES.due("the second", look("y:b=0?2;y:b=1?3"), 3);
        EDGES.due("one without a condition ahead of one that holds", look("y:2;y:b=1?3"), 2);
        EDGES.due("the last of many", look("y:b=0?2;".repeat(25) + "y:3"), 3);
        EDGES.due("none holds", look("y:b=0?2;y:b=2?3"), 0);
    }

    private static void steps() {
        EDGES.says("STEPS with ; between, 1 to 16:");
        EDGES.fault(EVENING, "", 0);
        EDGES.fault(EVENING, ";", 0);
        EDGES.fault(EVENING, "h", NONE);
        EDGES.fault(EVENING, "h;", 2);
        EDGES.fault(EVENING, "h;;h", 2);
        EDGES.fault(EVENING, "h;".repeat(15) + "h", NONE);
        EDGES.fault(EVENING, "s00;".repeat(15) + "s00", NONE);
        EDGES.says("h (an HOUR), g and two digits (that GOER begins ANEW, looking that way), t and a digit (the TIDE is so), s and two digits");
        EDGES.fault(EVENING, "h0", 1);
        EDGES.fault(EVENING, "g", 1);
        EDGES.fault(EVENING, "g0", 2);
        EDGES.fault(EVENING, "g00", NONE);
        EDGES.fault(EVENING, "g000", 3);
        EDGES.fault(EVENING, "t", 1);
        EDGES.fault(EVENING, "t0", NONE);
        EDGES.fault(EVENING, "t00", 2);
        EDGES.fault(EVENING, "s", 1);
        EDGES.fault(EVENING, "s0", 2);
        EDGES.fault(EVENING, "s00", NONE);
        EDGES.fault(EVENING, "s000", 3);
        EDGES.fault(EVENING, "g;h", 1);
        EDGES.fault(EVENING, "s1;h", 2);
    }

    private static void blanks() {
        EDGES.says("Blanks (32) may stand between all signs of these (between digits of a ROW, of a STEP, too), not within numbers.");
        EDGES.fault(SHORE, " s w 2 h 2 t 1 c 10 ; r 0 1 ; g x 1 y 1 b 0 p 4 ; r ", NONE);
        EDGES.fault(SHORE, "g" + " ".repeat(239), NONE);
        EDGES.fault(SHORE, " ".repeat(239) + "g", NONE);
        EDGES.fault(SHORE, " ".repeat(240), 240);
        EDGES.fault(SHORE, "sc1 0;g", 4);
        EDGES.fault(SHORE, "gx0 1", 4);
        EDGES.fault(SHORE, "g\t", 1);
        EDGES.fault(SHORE, "g\n", 1);
        EDGES.fault(SHORE, "g\u00a0", 1);
        for (int sign : new int[] {1, 2, 31, 33, 127, 128, 254, 255}) {
            EDGES.fault(SHORE, "g" + (char) sign, 1);
            EDGES.fault(SHORE, (char) sign + "g", 0);
            EDGES.fault(LAW, "y:1" + (char) sign, 3);
            EDGES.fault(EVENING, "h" + (char) sign, 1);
        }
        EDGES.fault(LAW, " y : ! ( b = 1 & a < 2 ) | r > 3 ? [ p + 10 ] * n - t / 2 ; y : 0 ", NONE);
        EDGES.fault(LAW, "y:1 0", 4);
        EDGES.fault(LAW, "y:b=1 0?1", 6);
        EDGES.fault(LAW, "y :\t1", 3);
        EDGES.fault(EVENING, " h ; g 0 1 ; t 2 ; s 1 2 ", NONE);
        EDGES.fault(EVENING, "g 0 1 2", 6);
        PrintsGoOn prints = Checks.shore(" s w 2 h 2 c 10 ; r 0 1 ; g x 1 y 1 b 0 p 4 ");
        EDGES.due("coins of two digits", prints.count(7), 10);
        EDGES.due("a kind behind a blank", prints.shore(1, 0), 1);
        EDGES.due("where it stopped", prints.goer(0, 0), 3);
        EDGES.due("an evening", Checks.tell(prints, EVENING, " s 1 2 ; g 3 4 "), 0);
        EDGES.due("two digits with a blank between", prints.step(0, 0, 1), 12);
        EDGES.due("a goer", prints.step(0, 1, 1), 3);
        EDGES.due("a look", prints.step(0, 1, 2), 4);
    }

    private static void earlyEnds() {
        EDGES.says("the first byte at which no such TEXT can go on (the length, if it ends too early, without a GOER, with a GOER out of the SHORE, with more ROWS than there are, or a longer one than it is WIDE)");
        EDGES.fault(SHORE, "sw", 2);
        EDGES.fault(SHORE, "sw5;", 4);
        EDGES.fault(SHORE, "g; ", 3);
        EDGES.fault(LAW, "y", 1);
        EDGES.fault(LAW, "y:b=", 4);
        EDGES.fault(LAW, "y:[b ", 5);
        EDGES.fault(EVENING, "h;g1", 4);
        EDGES.fault(SHORE, "s", 1);
        EDGES.fault(SHORE, "sw5;r012 ", 9);
        EDGES.fault(SHORE, "gx5", 3);
        EDGES.fault(SHORE, "gx4y3", NONE);
        EDGES.fault(SHORE, "gy4", 3);
        EDGES.fault(SHORE, "sw2h2;gx1y1", NONE);
        EDGES.fault(SHORE, "sw2h2;gx2y1", 11);
        EDGES.fault(SHORE, "sw2h2;gx1y2", 11);
        EDGES.fault(SHORE, "gx5y4;sw6h5", NONE);
        EDGES.fault(SHORE, "gx1;gx5;gx1", 11);
        EDGES.fault(SHORE, "g;g;g;gy4", 9);
        EDGES.fault(SHORE, "gx2;sw2 ", 8);
        EDGES.fault(SHORE, "sh2;r;r;g", NONE);
        EDGES.fault(SHORE, "sh2;r;r;r;g", 11);
        EDGES.fault(SHORE, "r;r;r;r;g", NONE);
        EDGES.fault(SHORE, "r;r;r;r;r;g", 11);
        EDGES.fault(SHORE, "sw2;r00;g", NONE);
        EDGES.fault(SHORE, "sw2;r000;g", 10);
        EDGES.fault(SHORE, "r00000;g", NONE);
        EDGES.fault(SHORE, "r000000;g", 9);
        EDGES.fault(SHORE, "r;r000000;r;g", 13);
    }

    private static void wrongNumbers() {
        EDGES.says("a number out of bounds is wrong at its last digit (a digit of a ROW above 3 itself)");
        EDGES.fault(SHORE, "sw1", 2);
        EDGES.fault(SHORE, "sw01", 3);
        EDGES.fault(SHORE, "sw1 ", 2);
        EDGES.fault(SHORE, "sw1x", 2);
        EDGES.fault(SHORE, "sw1 5", 2);
        EDGES.fault(SHORE, "sw10", 3);
        EDGES.fault(SHORE, "gp00", 3);
        EDGES.fault(SHORE, "gp99;;;", 3);
        EDGES.fault(SHORE, "r04", 2);
        EDGES.fault(SHORE, "r0 0 9", 5);
        EDGES.says("a third digit (whatever stands ahead of it; a fifth one in a LAW) itself");
        EDGES.fault(SHORE, "gx001", 4);
        EDGES.fault(SHORE, "gx999", 4);
        EDGES.fault(SHORE, "sw100;g", 4);
        EDGES.fault(SHORE, "sc999;g", 4);
        EDGES.fault(LAW, "y:12345", 6);
        EDGES.fault(LAW, "y:000001", 6);
        EDGES.says("a letter that was there");
        EDGES.fault(SHORE, "gx1x", 3);
        EDGES.fault(SHORE, "gx1 x", 4);
        EDGES.fault(SHORE, "gx0y0b0p1y0", 9);
        EDGES.fault(SHORE, "sw5h4t0c0c0;g", 9);
    }

    private static void tooMany() {
        EDGES.says("a second s");
        EDGES.fault(SHORE, "s;s", 2);
        EDGES.fault(SHORE, "g;sw5; s", 7);
        EDGES.says("a sixth r");
        EDGES.fault(SHORE, "r;r;r;r;r;r", 10);
        EDGES.fault(SHORE, "sh5;r;r;r;r;r;g;r", 16);
        EDGES.says("a seventh digit of a ROW");
        EDGES.fault(SHORE, "sw6;r0000000;g", 11);
        EDGES.fault(SHORE, "r0000009", 7);
        EDGES.fault(SHORE, "r0 0 0 0 0 0 0", 13);
        EDGES.says("a fifth g");
        EDGES.fault(SHORE, "g;g;g;g;g", 8);
        EDGES.fault(SHORE, "g;g;r;g;s;g;gx1", 12);
        EDGES.says("the ; ahead of a 17th STEP");
        EDGES.fault(EVENING, "h;".repeat(16), 31);
        EDGES.fault(EVENING, "h;".repeat(16) + "h", 31);
        EDGES.fault(EVENING, "t1;".repeat(16) + "h", 47);
        EDGES.fault(EVENING, "h;".repeat(15) + "h ; h", 32);
        EDGES.says("a seventh of ( [ ! in a LAW at it.");
        EDGES.fault(LAW, "y:[[[[[[ [", 9);
        EDGES.fault(LAW, "y:((((((!", 8);
        EDGES.fault(LAW, "y:!!!!!!(", 8);
        EDGES.fault(LAW, "y:([([", 4);
    }

    private static void whatAStepTells() {
        EDGES.says("(What a STEP tells that is not there or can't be is no FAULT: the STEP can't be.)");
        for (String step : new String[] {"g10", "g90", "g04", "g09", "t0", "t6", "t9", "s01", "s20", "s99"}) {
            EDGES.fault(EVENING, step, NONE);
            PrintsGoOn prints = Checks.shore("g");
            EDGES.due("an evening of " + step, Checks.tell(prints, EVENING, step), 0);
            EDGES.due("the first that can't be in " + step, prints.run(0, 0), 0);
            EDGES.refused("doing " + step, prints, () -> prints.perform(0), 0);
        }
    }

    /** What one text told, or left half told, is not in the next one on the same object. */
    private static void readAgain() {
        EDGES.says("those not told are sand, ROWS likewise.");
        PrintsGoOn prints = Checks.shore("sw6h5t5c99;r333333;r;r333333;g;g;g;gx5y4b3p4");
        EDGES.due("a row of none behind one of six", Checks.tell(prints, SHORE, "sw2h2;r;r;g"), 4);
        EDGES.due("one goer", prints.count(1), 1);
        EDGES.due("sand", prints.shore(0, 0), 0);
        Checks.type(prints, "sw6h2;r333333;g;g;g;gx9");
        EDGES.refused("a fault", prints, () -> prints.text(SHORE), NONE);
        EDGES.due("plain again", Checks.tell(prints, SHORE, "g"), 20);
        int[] due = {0, 1, 1, 0, 0};
        for (int what = 0; what < due.length; what++) {
            EDGES.due("goer(0, " + what + ")", prints.goer(0, what), due[what]);
        }
        EDGES.due("no tide", prints.count(8), 0);
        EDGES.due("coins", prints.count(7), 20);
        EDGES.says("WORTH of a LAW: the SUM of the first CLAUSE");
        PrintsGoOn laws = Checks.shore("gx2y2");
        EDGES.due("a law half told", Checks.tell(laws, LAW, "y:3;y:"), NONE);
        int[] next = {7, 13, 17, 11};
        for (int i = 0; i < 4; i++) {
            EDGES.due("law " + i, Checks.tell(laws, LAW, "y:" + i), i);
        }
        for (int i = 0; i < 4; i++) {
            laws.law(i);
            EDGES.due("by law " + i + " alone", laws.ahead(0), next[i]);
        }
        EDGES.says("EVENINGS (4 at most) are TEXTS");
        PrintsGoOn evenings = new PrintsGoOn();
        EDGES.due("an evening half told", Checks.tell(evenings, EVENING, "h;t3;"), NONE);
        EDGES.due("an evening", Checks.tell(evenings, EVENING, "g12"), 0);
        EDGES.due("another", Checks.tell(evenings, EVENING, "t5;s34"), 1);
        EDGES.due("the first has one step", evenings.step(0, 1, 0), PrintsGoOn.HIDDEN);
        EDGES.due("its digit", evenings.step(0, 0, 1), 1);
        EDGES.due("the second has two", evenings.step(1, 1, 1), 34);
    }
}
