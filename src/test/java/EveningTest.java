/** Promises 19 to 21: steps of evenings, what they would do and doing them. */
public final class EveningTest {
    private static final int HIDDEN = PrintsGoOn.HIDDEN;
    private static final Checks CHECKS = new Checks("EveningTest");

    public static void main(String[] args) {
        steps();
        runs();
        whatCantBe();
        performing();
        CHECKS.end();
    }

    private static void steps() {
        PrintsGoOn prints = new PrintsGoOn();
        Checks.tell(prints, 2, "h; g 3 2 ;t9;s07");
        int[][] due = {{0, -1, -1}, {1, 3, 2}, {2, 9, -1}, {3, 7, -1}};
        for (int i = 0; i < 4; i++) {
            for (int what = 0; what < 3; what++) {
                CHECKS.due("19: step(0, " + i + ", " + what + ")", prints.step(0, i, what), due[i][what]);
            }
        }
        CHECKS.due("19: a fifth", prints.step(0, 4, 0), HIDDEN);
        CHECKS.due("19: i -1", prints.step(0, -1, 0), HIDDEN);
        CHECKS.due("19: what 3", prints.step(0, 0, 3), HIDDEN);
        CHECKS.due("19: what -1", prints.step(0, 0, -1), HIDDEN);
        CHECKS.due("19: evening 1", prints.step(1, 0, 0), HIDDEN);
        CHECKS.due("19: evening -1", prints.step(-1, 0, 0), HIDDEN);
    }

    private static void runs() {
        PrintsGoOn prints = new PrintsGoOn();
        Checks.tell(prints, 2, "h;t1;s02;h");
        CHECKS.due("20: no shore", prints.run(0, 0), HIDDEN);
        Checks.tell(prints, 0, "sw6;gx0b1;gx2b3;gx1y2b0p2");
        CHECKS.due("20: nothing goes on 2", prints.run(0, 0), 2);
        CHECKS.due("20: three meetings up to there", prints.run(0, 1), 3);
        CHECKS.due("20: nothing happened", prints.count(6), 0);
        CHECKS.due("20: no act", prints.count(13), 0);
        Checks.tell(prints, 2, "h;t1;s01");
        CHECKS.due("20: all can be", prints.run(1, 0), -1);
        CHECKS.due("20: its meetings", prints.run(1, 1), 3);
        CHECKS.due("20: what 2", prints.run(1, 2), HIDDEN);
        CHECKS.due("20: what -1", prints.run(1, -1), HIDDEN);
        CHECKS.due("20: evening 2", prints.run(2, 0), HIDDEN);
        CHECKS.due("20: evening -1", prints.run(-1, 0), HIDDEN);
    }

    private static int firstThatCantBe(String shore, String evening) {
        PrintsGoOn prints = Checks.shore(shore);
        Checks.tell(prints, 2, evening);
        int first = prints.run(0, 0);
        int done = prints.perform(0);
        CHECKS.due("21: as run said, " + evening, done, first == -1 ? evening.split(";").length : first);
        return first;
    }

    private static void whatCantBe() {
        CHECKS.due("20: no such goer", firstThatCantBe("g", "h;g10"), 1);
        CHECKS.due("20: no such look", firstThatCantBe("g", "h;g04"), 1);
        CHECKS.due("20: a tide of 6", firstThatCantBe("g", "t5;t6"), 1);
        CHECKS.due("20: the tide is so", firstThatCantBe("st3;g", "t3"), 0);
        CHECKS.due("20: no such cell", firstThatCantBe("g", "s00;s20"), 1);
        CHECKS.due("20: no coins for a child", firstThatCantBe("sc8;g", "g00;g01;g02"), 2);
        CHECKS.due("20: no coin for a broom", firstThatCantBe("sc1;g;gx1", "s00;s01"), 1);
        CHECKS.due("20: a rock there", firstThatCantBe("r1;g", "h;g00"), 1);
        CHECKS.due("20: sixteen hours", firstThatCantBe("g", "h;h;h;h;h;h;h;h;h;h;h;h;h;h;h;h"), -1);
    }

    private static void performing() {
        PrintsGoOn prints = Checks.shore("sw6;gx0b1;gx2b3;gx1y2b0p2");
        Checks.tell(prints, 2, "h;t1;s01;g02;g00;t1;h");
        CHECKS.due("21: five steps", prints.perform(0), 5);
        CHECKS.due("21: five acts", prints.count(13), 5);
        CHECKS.due("21: coins", prints.count(7), 20 - 1 - 6);
        CHECKS.due("21: the tide", prints.count(8), 1);
        CHECKS.due("21: an hour", prints.count(6), 1);
        CHECKS.due("21: its log", prints.log(0, 0), 3);
        CHECKS.due("21: gone", prints.all(4), 6);
        CHECKS.due("21: looks", prints.goer(0, 1), 0);
        CHECKS.due("21: undone one by one", prints.undo(), 4);
        CHECKS.due("21: looks as ahead of it", prints.goer(0, 1), 2);
        CHECKS.due("21: evening 1", prints.perform(1), -1);
        CHECKS.due("21: evening -1", prints.perform(-1), -1);
        PrintsGoOn none = new PrintsGoOn();
        Checks.tell(none, 2, "h");
        CHECKS.due("21: no shore", none.perform(0), -1);
    }
}
