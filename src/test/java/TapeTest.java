/** Promises 1 to 5: a new object, the tape, and what becomes of texts. */
public final class TapeTest {
    private static final Checks CHECKS = new Checks("TapeTest");

    public static void main(String[] args) {
        newObject();
        feeding();
        ending();
        textsOfAShore();
        lawsAndEvenings();
        CHECKS.end();
    }

    private static void newObject() {
        PrintsGoOn prints = new PrintsGoOn();
        int[] counts = {0, 0, 0, 0, 0, -1, 0, 0, 0, 0, 3, 0, 0, 0};
        for (int what = 0; what < counts.length; what++) {
            CHECKS.due("1: count(" + what + ")", prints.count(what), counts[what]);
        }
        CHECKS.due("1: fault(0)", prints.fault(0), 0);
        CHECKS.due("1: text(0)", prints.text(0), -1);
        CHECKS.due("1: back()", prints.back(), -1);
        CHECKS.due("1: all(2)", prints.all(2), -1);
    }

    private static void feeding() {
        PrintsGoOn prints = new PrintsGoOn();
        CHECKS.due("2: nothing", prints.feed(0, 0, 0, 0, 0), 0);
        CHECKS.due("2: zeros are left out", prints.feed(0x00670000, 0, 0x78000000, 0, 0x30), 3);
        CHECKS.due("2: gx0 is whole", prints.fault(0), -1);
        CHECKS.due("2: the highest byte first", prints.feed(0x3B677831, 0, 0, 0, 0), 7);
        CHECKS.due("2: gx0;gx1", prints.text(0), 20);
        CHECKS.due("2: the second goer", prints.goer(1, 0), 1);
        CHECKS.due("2: bytes above 127", prints.feed(-1, 0x80808080, 0, 0, 0), 8);
        CHECKS.due("2: they are no text", prints.fault(2), 0);
        for (int i = 0; i < 11; i++) {
            prints.feed(-1, -1, -1, -1, -1);
        }
        CHECKS.due("2: 228 bytes", prints.count(4), 228);
        CHECKS.due("2: 13 more are too many", prints.feed(-1, -1, -1, 1, 0), -1);
        CHECKS.due("2: nothing came", prints.count(4), 228);
        CHECKS.due("2: 12 more", prints.feed(-1, -1, -1, 0, 0), 240);
        CHECKS.due("2: one more is too many", prints.feed(0, 0, 0, 0, 1), -1);
        CHECKS.due("2: none more", prints.feed(0, 0, 0, 0, 0), 240);
    }

    private static void ending() {
        PrintsGoOn prints = new PrintsGoOn();
        CHECKS.due("3: end(0) of none", prints.end(0), true);
        CHECKS.due("3: end(1) of none", prints.end(1), false);
        Checks.type(prints, "gx1;q");
        CHECKS.due("3: end(6)", prints.end(6), false);
        CHECKS.due("3: end(-1)", prints.end(-1), false);
        CHECKS.due("3: still five", prints.count(4), 5);
        CHECKS.due("3: end(3)", prints.end(3), true);
        CHECKS.due("3: three are left", prints.count(4), 3);
        CHECKS.due("3: gx1", prints.text(0), 20);
        CHECKS.due("3: its cell", prints.goer(0, 0), 1);
    }

    private static void textsOfAShore() {
        PrintsGoOn prints = new PrintsGoOn();
        CHECKS.due("5: a shore", Checks.tell(prints, 0, "sw3h2t1c7;r12;gx2y0b2p4"), 6);
        CHECKS.due("5: the tape is empty", prints.count(4), 0);
        CHECKS.due("5: kind of 0", prints.shore(0, 0), 1);
        CHECKS.due("5: kind of 1", prints.shore(1, 0), 2);
        CHECKS.due("5: untold is sand", prints.shore(2, 0), 0);
        CHECKS.due("5: coins", prints.count(7), 7);
        CHECKS.due("5: tide", prints.count(8), 1);
        CHECKS.due("5: looks", prints.goer(0, 1), 2);
        CHECKS.due("5: pace", prints.goer(0, 2), 4);
        CHECKS.due("5: a fault", Checks.tell(prints, 0, "sw3h2;gx3"), -1);
        CHECKS.due("5: the tape stays", prints.count(4), 9);
        CHECKS.due("5: the shore stays", prints.count(7), 7);
        CHECKS.due("5: sort 3", prints.text(3), -1);
        CHECKS.due("5: sort -1", prints.text(-1), -1);
        anotherShore(prints);
    }

    private static void anotherShore(PrintsGoOn prints) {
        prints.hour();
        prints.seen(0, 1, 1);
        prints.image();
        Checks.tell(prints, 1, "y:1");
        Checks.tell(prints, 2, "h");
        prints.law(0);
        prints.children(7);
        CHECKS.due("5: log ahead of it", prints.count(12), 1);
        CHECKS.due("5: acts ahead of it", prints.count(13), 1);
        CHECKS.due("5: seen ahead of it", prints.count(11), 1);
        CHECKS.due("5: another shore", Checks.tell(prints, 0, "g"), 20);
        int[] counts = {20, 1, 1, 1, 0, 0, 0, 20, 0, 0, 7, 0, 0, 0};
        for (int what = 0; what < counts.length; what++) {
            CHECKS.due("5: count(" + what + ")", prints.count(what), counts[what]);
        }
        CHECKS.due("5: its image is gone", prints.back(), -1);
        CHECKS.due("5: no act", prints.undo(), -1);
        CHECKS.due("5: no log", prints.log(0, 0), -1);
        CHECKS.due("5: it goes", prints.all(2), 1);
        CHECKS.due("5: the law still holds", prints.ahead(0), 1);
        CHECKS.due("5: rows that were told", prints.shore(0, 0), 0);
    }

    private static void lawsAndEvenings() {
        PrintsGoOn prints = new PrintsGoOn();
        for (int i = 0; i < 4; i++) {
            CHECKS.due("5: law", Checks.tell(prints, 1, "y:" + i), i);
            CHECKS.due("5: evening", Checks.tell(prints, 2, "t" + i), i);
        }
        CHECKS.due("5: a fifth law", Checks.tell(prints, 1, "y:4"), -1);
        CHECKS.due("5: its bytes stay", prints.count(4), 3);
        CHECKS.due("5: a fifth evening", Checks.tell(prints, 2, "t4"), -1);
        CHECKS.due("5: laws", prints.count(2), 4);
        CHECKS.due("5: evenings", prints.count(3), 4);
        CHECKS.due("5: the second evening", prints.step(1, 0, 1), 1);
        CHECKS.due("4: as a law it is none", prints.fault(1), 0);
        CHECKS.due("4: as an evening it has no fault", prints.fault(2), -1);
        CHECKS.due("4: asking leaves the tape", prints.count(4), 2);
    }
}
