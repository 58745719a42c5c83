/** What laws are worth (promises 5, 8 and 10): which way prints look behind a step. */
public final class LawTest {
    private static final Checks CHECKS = new Checks("LawTest");

    public static void main(String[] args) {
        sums();
        bounds();
        conditions();
        clauses();
        letters();
        manySigns();
        CHECKS.end();
    }

    /** The way it looks behind an hour: the worth modulo 4, as long as it meets nobody. */
    private static void worth(String law, int want) {
        PrintsGoOn prints = Checks.shore("gx2y2", law);
        prints.hour();
        CHECKS.due(law, prints.goer(0, 1), Math.floorMod(want, 4));
        for (int more = 1; more < 4; more++) {
            PrintsGoOn shifted = Checks.shore("gx2y2", "y:[" + law.substring(2) + "]/4-" + more);
            shifted.hour();
            CHECKS.due(law + " by 4 less " + more, shifted.goer(0, 1), Math.floorMod(want / 4 - more, 4));
        }
    }

    private static void sums() {
        worth("y:3", 3);
        worth("y:0-1", -1);
        worth("y:0-3-4", -7);
        worth("y:2+3*5", 17);
        worth("y:[2+3]*5", 25);
        worth("y:7-2-3", 2);
        worth("y:100/7/2", 7);
        worth("y:100/7*2", 28);
        worth("y:[0-7]/2", -3);
        worth("y:7/[0-2]", -3);
        worth("y:7/0+6", 6);
        worth("y:0/0", 0);
        worth("y:1+2*3-8/2*3+[1-[2-3]]", -3);
        worth("y:0013", 13);
        worth("y: 1 + [ 100 ] ", 101);
    }

    private static void bounds() {
        worth("y:9999*9999", 1000000);
        worth("y:9999*9999-9999*9999+1", 1);
        worth("y:9999*9999+7-9999*100", 1000000 - 999900);
        worth("y:0-9999*9999-5", -1000000);
        worth("y:[0-9999]*9999*[0-9999]*9999", 1000000);
        worth("y:9999*100+9999", 1000000);
        worth("y:9999*100+100", 1000000);
        worth("y:9999*100+99", 999999);
    }

    private static void conditions() {
        condition("b=1", true);
        condition("b=2", false);
        condition("b<2", true);
        condition("b<1", false);
        condition("b>0", true);
        condition("b>1", false);
        condition("!b=1", false);
        condition("!b<2", false);
        condition("!b>0", false);
        condition("!b<1", true);
        condition("!b>1", true);
        condition("!(b<2|b>0)", false);
        condition("!(b<2&b>0)", false);
        condition("!!b=1", true);
        condition("b=1&p=2", false);
        condition("b=1|p=2", true);
        condition("b=2|b=3|b=1", true);
        condition("b=1|b=2&b=3", true);
        condition("b=2&b=3|b=1", true);
        condition("(b=1|b=2)&b=3", false);
        condition("!b=1&b=2", false);
        condition("!(b=1&b=2)", true);
        condition("!b=2&!b=3", true);
        condition("b+1=2*1", true);
        condition("((((((b=1))))))", true);
        condition("![[[[[b]]]]]=2", true);
    }

    private static void condition(String condition, boolean holds) {
        PrintsGoOn prints = Checks.shore("gx2y2", "y:" + condition + "?2;y:3");
        prints.hour();
        CHECKS.due(condition, prints.goer(0, 1), holds ? 2 : 3);
    }

    private static void clauses() {
        PrintsGoOn prints = Checks.shore("gx2y2", "y:b=0?1;y:b=1?3;y:b=1?2");
        prints.hour();
        CHECKS.due("the first that holds", prints.goer(0, 1), 3);
        prints.hour();
        CHECKS.due("none holds: 0", prints.goer(0, 1), 0);
        prints.hour();
        CHECKS.due("the first of all", prints.goer(0, 1), 1);
        PrintsGoOn plain = Checks.shore("gx2y2", "y:2;y:3");
        plain.hour();
        CHECKS.due("one without a condition", plain.goer(0, 1), 2);
    }

    private static void letters() {
        PrintsGoOn ahead = Checks.shore("r00300;r01022;gx1y0b1;gx1y0b2;gx2y1b1", "y:a=3&r=1?0;y:a=1&r=0?1;y:a=2&r=0?2;y:3");
        CHECKS.due("a hotel ahead, rock to the right: up", ahead.ahead(0), 1);
        ahead.hour();
        CHECKS.due("it looks up and stays", ahead.goer(0, 1), 0);
        CHECKS.due("rock ahead, sand to the right: to the right, in", ahead.goer(1, 4), 1);
        CHECKS.due("water ahead, sand to the right: down", ahead.goer(2, 0), 12);
        PrintsGoOn pace = Checks.shore("gx2y2p2", "y:p");
        pace.hour();
        CHECKS.due("p", pace.goer(0, 1), 2);
        PrintsGoOn out = Checks.shore("gx4y0b1", "y:a*10+r");
        out.hour();
        CHECKS.due("out of the shore is 1, below it sand: 10", out.goer(0, 1), 2);
        went();
        hour();
    }

    /** Between two walls it goes to and fro, until it went 100 cells and n is 0 again. */
    private static void went() {
        PrintsGoOn prints = Checks.shore("sw2h2;gp4", "y:n=99?2;y:n/2*2=n?1;y:3");
        for (int i = 0; i < 24; i++) {
            prints.hour();
        }
        CHECKS.due("it went 96", prints.goer(0, 3), 96);
        prints.hour();
        CHECKS.due("at 99 it goes down", prints.goer(0, 0), 3);
        prints.hour();
        CHECKS.due("at 100 n is 0: to the right, where it can't go", prints.goer(0, 3), 100);
        CHECKS.due("so it looks to the right", prints.goer(0, 1), 1);
    }

    /** t is the hour that begins: 0 in the first, and 0 again in the 25th. */
    private static void hour() {
        PrintsGoOn prints = Checks.shore("sw2h2;r11;r11;g", "y:t=0?2;y:t=23?1;y:3");
        for (int i = 0; i < 50; i++) {
            int due = i % 24 == 0 ? 2 : i % 24 == 23 ? 1 : 3;
            prints.hour();
            CHECKS.due("t in hour " + i, prints.goer(0, 1), due);
        }
    }

    private static void manySigns() {
        StringBuilder sum = new StringBuilder("y:1");
        for (int i = 0; i < 118; i++) {
            sum.append("+1");
        }
        worth239(sum.toString(), 119);
        StringBuilder condition = new StringBuilder("y:");
        for (int i = 0; i < 58; i++) {
            condition.append(i == 0 ? "" : "|").append("b=2");
        }
        worth239(condition.append("|b=1?3").toString(), 3);
    }

    private static void worth239(String law, int want) {
        PrintsGoOn prints = Checks.shore("gx2y2", law);
        prints.hour();
        CHECKS.due("a law of " + law.length() + " bytes", prints.goer(0, 1), want % 4);
    }
}
