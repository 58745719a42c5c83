/** The 9,999th hour and the 9,999th meeting (promises 10, 16, 20, 21 and what is asked ahead there). */
public final class LimitsTest {
    private static final Checks CHECKS = new Checks("LimitsTest");
    private static final String SIXTEEN = "h;h;h;h;h;h;h;h;h;h;h;h;h;h;h;h";

    public static void main(String[] args) {
        lastHour();
        mostMeetings();
        CHECKS.end();
    }

    private static void lastHour() {
        PrintsGoOn prints = Checks.shore("sw2h2;g", "y:t=15?2;y:t=16?1;y:0");
        prints.children(0);
        for (int i = 0; i < 333; i++) {
            prints.years(30, i);
        }
        prints.tide(0);
        prints.anew(0, 3);
        prints.image();
        Checks.tell(prints, 2, SIXTEEN);
        CHECKS.due("16: behind 333 times 30", prints.count(6), 9990);
        CHECKS.due("16: ten are beyond", prints.years(10, 1), -1);
        CHECKS.due("20: nine hours can be", prints.run(0, 0), 9);
        CHECKS.due("16: nine are not", prints.years(9, 1), 9999);
        CHECKS.due("16: one is beyond", prints.years(1, 1), -1);
        CHECKS.due("10: beyond", prints.hour(), -1);
        CHECKS.due("10: nothing changed", prints.count(6), 9999);
        CHECKS.due("20: none can be", prints.run(0, 0), 0);
        CHECKS.due("21: none is done", prints.perform(0), 0);
        prints.tide(1);
        prints.tide(0);
        prints.anew(0, 3);
        CHECKS.due("22: apart it goes on, hour 9999 is 15: down", prints.where(0, 1), 2);
        CHECKS.due("22: hour 10000 is 16: right", prints.where(0, 2), 3);
        CHECKS.due("22: hour 10001 is 17: up", prints.where(0, 3), 1);
        CHECKS.due("17: an hour is undone", prints.undo() >= 0, true);
        CHECKS.due("38: back", prints.back(), 9990);
        CHECKS.due("21: nine are done", prints.perform(0), 9);
        CHECKS.due("21: the last hour", prints.count(6), 9999);
    }

    /** Four on one cell that stay there: six meetings an hour. */
    private static void mostMeetings() {
        PrintsGoOn prints = Checks.shore("g;g;g;g", "y:0");
        Checks.tell(prints, 2, SIXTEEN);
        CHECKS.due("20: meetings", prints.run(0, 1), 96);
        for (int i = 0; i < 104; i++) {
            prints.perform(0);
        }
        CHECKS.due("10: meetings so far", prints.count(9), 9984);
        CHECKS.due("20: 9,999 does not matter", prints.run(0, 1), 96);
        prints.hour();
        prints.hour();
        CHECKS.due("10: nearly", prints.count(9), 9996);
        CHECKS.due("10: meetings in it", prints.hour(), 6);
        CHECKS.due("10: the most", prints.count(9), 9999);
        CHECKS.due("18: the log has them all", prints.log(0, 0), 6);
        CHECKS.due("10: meetings in the next", prints.hour(), 6);
        CHECKS.due("10: no more", prints.count(9), 9999);
        prints.undo();
        prints.undo();
        CHECKS.due("17: undone", prints.count(9), 9996);
    }
}
