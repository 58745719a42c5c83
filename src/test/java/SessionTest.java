import java.util.NoSuchElementException;
import java.util.Random;

/** Long sessions by draws: each answer of the class is held against the model's. */
public final class SessionTest {
    private static final int SESSIONS = 500;
    private static final int CALLS = 380;

    private static final Checks CHECKS = new Checks("SessionTest");

    private final Random random;
    private final Texts texts;
    private final PrintsGoOn prints = new PrintsGoOn();
    private final Model model = new Model();
    private final String name;

    private SessionTest(int seed) {
        random = new Random(seed);
        texts = new Texts(random);
        name = "session " + seed;
    }

    public static void main(String[] args) {
        for (int seed = 0; seed < SESSIONS; seed++) {
            new SessionTest(seed).play();
        }
        CHECKS.end();
    }

    private void due(String call, long got, long want) {
        CHECKS.due(name + ": " + call, got, want);
    }

    private void due(String call, boolean got, boolean want) {
        due(call, got ? 1 : 0, want ? 1 : 0);
    }

    private void play() {
        for (int i = 0; i < CALLS; i++) {
            int sort = random.nextInt(40);
            if (i == 0 || random.nextInt(250) == 0) {
                tellShore();
            } else if (sort < 13) {
                change(sort);
            } else if (sort < 25) {
                askNow(sort);
            } else if (sort < 39) {
                askAhead(sort);
            } else {
                tellMore();
            }
        }
        for (int what = -1; what <= 14; what++) {
            due("count(" + what + ")", prints.count(what), model.count(what));
        }
    }

    private void tellShore() {
        String text = texts.shore();
        int cells = Checks.tell(prints, 0, text);
        model.tellShore(text);
        due("text(0) of " + text, cells, model.count(0));
    }

    private void tellMore() {
        if (random.nextBoolean()) {
            Texts.Law law = texts.law();
            int number = Checks.tell(prints, 1, law.text());
            if (model.laws.size() < 4) {
                model.laws.add(law.worth());
                due("text(1) of " + law.text(), number, model.laws.size() - 1);
            } else {
                due("text(1), a fifth", number, -1);
                prints.end(0);
            }
        } else {
            String text = texts.evening();
            int number = Checks.tell(prints, 2, text);
            if (model.evenings.size() < 4) {
                model.tellEvening(text);
                due("text(2) of " + text, number, model.evenings.size() - 1);
            } else {
                due("text(2), a fifth", number, -1);
                prints.end(0);
            }
        }
    }

    private int goer() {
        return random.nextInt(5) - (random.nextInt(20) == 0 ? 1 : 0);
    }

    private int cell() {
        return random.nextInt(4) == 0 ? random.nextInt(33) - 1 : random.nextInt(Math.max(1, model.count(0)));
    }

    private int look() {
        return random.nextInt(30) == 0 ? random.nextInt(7) - 2 : random.nextInt(4);
    }

    private int busyCell() {
        int goer = goer();
        int cell = model.goer(goer, 0);
        return cell < 0 || random.nextInt(4) == 0 ? cell() : cell;
    }

    private void change(int sort) {
        int goer = goer();
        int cell = cell();
        int look = look();
        switch (sort) {
            case 0, 1, 2:
                due("hour()", prints.hour(), model.hour());
                break;
            case 3:
                int tide = random.nextInt(5) == 0 ? random.nextInt(8) - 1 : random.nextInt(3);
                due("tide(" + tide + ")", prints.tide(tide), model.tide(tide));
                break;
            case 4:
                due("stone(" + cell + ")", prints.stone(cell), model.stone(cell));
                break;
            case 5:
                int busy = busyCell();
                due("sweep(" + busy + ")", prints.sweep(busy), model.sweep(busy));
                break;
            case 6, 7:
                due("anew(" + goer + ", " + look + ")", prints.anew(goer, look), model.anew(goer, look));
                break;
            case 8:
                int n = random.nextInt(60) - 3;
                due("give(" + n + ")", prints.give(n), model.give(n));
                break;
            case 9:
                int years = random.nextInt(10) == 0 ? random.nextInt(40) - 4 : 1 + random.nextInt(4);
                long seed = random.nextLong();
                due("years(" + years + ", " + seed + ")", prints.years(years, seed), model.years(years, seed));
                break;
            case 10:
                int times = 1 + random.nextInt(random.nextInt(10) == 0 ? 45 : 3);
                for (int i = 0; i < times; i++) {
                    due("undo()", prints.undo(), model.undo());
                }
                break;
            case 11:
                if (random.nextInt(3) == 0) {
                    due("back()", prints.back(), model.back());
                } else {
                    due("image()", prints.image(), model.image());
                }
                break;
            default:
                changeMore(goer, cell);
                break;
        }
    }

    private void changeMore(int goer, int cell) {
        int evening = random.nextInt(6) - 1;
        switch (random.nextInt(4)) {
            case 0:
                due("perform(" + evening + ")", prints.perform(evening), model.perform(evening));
                break;
            case 1:
                int law = random.nextInt(7) - 2;
                due("law(" + law + ")", prints.law(law), model.law(law));
                break;
            case 2:
                int v = random.nextInt(12) - 1;
                due("children(" + v + ")", prints.children(v), model.children(v));
                break;
            default:
                int n = random.nextInt(33) - 1;
                int at = random.nextInt(3) == 0 ? cell : model.where(goer, Math.max(0, n));
                due("seen(" + goer + ", " + n + ", " + at + ")", prints.seen(goer, n, at), model.seen(goer, n, at));
                break;
        }
    }

    private int goerOf(int goer, int what) {
        try {
            return prints.goer(goer, what);
        } catch (NoSuchElementException e) {
            return -1;
        }
    }

    private void askNow(int sort) {
        int goer = goer();
        int cell = cell();
        int what = random.nextInt(12) - 1;
        int i = random.nextInt(3) == 0 ? random.nextInt(64) - 2 : random.nextInt(4);
        int evening = random.nextInt(6) - 1;
        switch (sort) {
            case 13, 14:
                int kind = random.nextInt(4) - 1;
                due("shore(" + cell + ", " + kind + ")", prints.shore(cell, kind), model.shore(cell, kind));
                break;
            case 15, 16:
                int of = random.nextInt(7) - 1;
                due("goer(" + goer + ", " + of + ")", goerOf(goer, of), model.goer(goer, of));
                break;
            case 17:
                int part = random.nextInt(5) - 1;
                due("log(" + i + ", " + part + ")", prints.log(i, part), model.log(i, part));
                break;
            case 18:
                int place = random.nextInt(18) - 1;
                int which = random.nextInt(5) - 1;
                due("step(" + evening + ", " + place + ", " + which + ")", prints.step(evening, place, which),
                        model.step(evening, place, which));
                break;
            case 19:
                int other = cell();
                due("way(" + cell + ", " + other + ")", prints.way(cell, other), model.way(cell, other));
                break;
            case 20:
                int c = random.nextInt(1010) - 5;
                due("shares(" + goer + ", " + c + ")", prints.shares(goer, c), model.shares(goer, c));
                break;
            case 21:
                due("ahead(" + goer + ")", prints.ahead(goer), model.ahead(goer));
                break;
            case 22, 23:
                due("all(" + what + ")", prints.all(what), model.all(what));
                break;
            default:
                int count = random.nextInt(16) - 1;
                due("count(" + count + ")", prints.count(count), model.count(count));
                break;
        }
    }

    private void askAhead(int sort) {
        int one = goer();
        int other = goer();
        int n = random.nextInt(8) == 0 ? random.nextInt(104) - 2 : random.nextInt(25);
        int what = random.nextInt(8) == 0 ? random.nextInt(4) - 1 : random.nextInt(2);
        int i = random.nextInt(3) == 0 ? -1 : random.nextInt(18) - 2;
        int evening = random.nextInt(6) - 1;
        switch (sort) {
            case 25, 26:
                due("run(" + evening + ", " + what + ")", prints.run(evening, what), model.run(evening, what));
                break;
            case 27:
                due("where(" + one + ", " + n + ")", prints.where(one, n), model.where(one, n));
                break;
            case 28, 29:
                due("meet(" + one + ", " + other + ")", prints.meet(one, other), model.meet(one, other));
                break;
            case 30:
                due("ends(" + one + ", " + what + ")", prints.ends(one, what), model.ends(one, what));
                break;
            case 31:
                due("again(" + one + ")", prints.again(one), model.again(one));
                break;
            case 32, 33:
                if (random.nextInt(2) == 0) {
                    due("stones(" + one + ", " + other + ", " + n + ", " + what + ")",
                            prints.stones(one, other, n, what), model.stones(one, other, n, what));
                }
                break;
            case 34:
                due("fits(" + one + ", " + i + ")", prints.fits(one, i), model.fits(one, i));
                break;
            case 35:
                due("ask(" + one + ")", prints.ask(one), model.ask(one));
                break;
            case 36:
                int x = look();
                int y = look();
                due("game(" + one + ", " + other + ", " + x + ", " + y + ", " + what + ")",
                        prints.game(one, other, x, y, what), model.game(one, other, x, y, what));
                break;
            case 37:
                due("rests(" + one + ", " + other + ", " + i + ")", prints.rests(one, other, i),
                        model.rests(one, other, i));
                break;
            default:
                int cell = busyCell();
                int hours = random.nextInt(9) - 1;
                int chance = random.nextInt(104) - 2;
                due("odds(" + one + ", " + cell + ", " + hours + ", " + chance + ")",
                        prints.odds(one, cell, hours, chance), model.odds(one, cell, hours, chance));
                break;
        }
    }
}
