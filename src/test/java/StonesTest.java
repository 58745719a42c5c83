import java.util.Random;

/** Promises 27 and 33 where they are dearest: held against the model, which tries all there is. */
public final class StonesTest {
    private static final Checks CHECKS = new Checks("StonesTest");

    public static void main(String[] args) {
        stones();
        odds();
        CHECKS.end();
    }

    private static void stones() {
        int[] found = new int[4];
        int besideOneAnother = 0;
        for (int seed = 0; seed < 700; seed++) {
            Random random = new Random(seed);
            Texts texts = new Texts(random);
            String text = texts.shore();
            PrintsGoOn prints = Checks.shore(text);
            Model model = new Model();
            model.tellShore(text);
            if (random.nextInt(3) == 0) {
                Texts.Law law = texts.law();
                model.laws.add(law.worth());
                Checks.tell(prints, 1, law.text());
                prints.law(0);
                model.law(0);
            }
            int n = 1 + random.nextInt(20);
            int cells = model.stones(0, 1, n, 1);
            int howMany = model.stones(0, 1, n, 0);
            CHECKS.due("27: " + text + ", " + n, prints.stones(0, 1, n, 1), cells);
            CHECKS.due("27: how many, " + text + ", " + n, prints.stones(0, 1, n, 0), howMany);
            found[howMany + 1]++;
            besideOneAnother += howMany == 2 && cells % 100 - cells / 100 == 1 ? 1 : 0;
        }
        for (int i = 0; i < found.length; i++) {
            CHECKS.due("27: answers of " + (i - 1) + " came", found[i] > 5, true);
        }
        CHECKS.due("27: two beside one another came", besideOneAnother > 0, true);
    }

    private static void odds() {
        String text = "sw3h3;r003;gx0y1b0;gx2y2b3";
        PrintsGoOn prints = Checks.shore(text);
        Model model = new Model();
        model.tellShore(text);
        for (int chance = 0; chance <= 100; chance++) {
            long all = 0;
            for (int cell = 0; cell < 9; cell++) {
                int got = prints.odds(0, cell, 6, chance);
                all += got;
                CHECKS.due("33: odds(0, " + cell + ", 6, " + chance + ")", got, model.odds(0, cell, 6, chance));
            }
            CHECKS.due("33: all parts of chance " + chance, all, 1000000000);
        }
    }
}
