import java.util.ArrayList;
import java.util.List;
import java.util.Random;

/** Makes texts by draws, with blanks where they may stand; laws come with what they mean. */
final class Texts {
    private final Random random;

    Texts(Random random) {
        this.random = random;
    }

    /** Numbers by letters b, a, r, p, n, t. */
    interface Meaning {
        long of(int[] letters);
    }

    record Law(String text, Meaning worth) {
    }

    private String gap() {
        return random.nextInt(12) == 0 ? " ".repeat(1 + random.nextInt(2)) : "";
    }

    private String spaced(String text) {
        return gap() + text + gap();
    }

    String shore() {
        int wide = 2 + random.nextInt(5);
        int rows = 2 + random.nextInt(4);
        List<String> clauses = new ArrayList<>();
        if (wide != 5 || rows != 4 || random.nextBoolean()) {
            clauses.add(rules(wide, rows));
        }
        int told = random.nextInt(rows + 1);
        for (int row = 0; row < told; row++) {
            clauses.add(random.nextInt(clauses.size() + 1), row(wide));
        }
        int goers = 1 + random.nextInt(4);
        for (int goer = 0; goer < goers; goer++) {
            clauses.add(random.nextInt(clauses.size() + 1), goer(wide, rows));
        }
        String text = gap() + String.join(";" + gap(), clauses);
        return text.length() > 240 ? shore() : text;
    }

    private String rules(int wide, int rows) {
        List<String> items = new ArrayList<>();
        items.add("w" + gap() + number(wide));
        items.add(random.nextInt(items.size() + 1), "h" + gap() + number(rows));
        if (random.nextInt(3) == 0) {
            items.add(random.nextInt(items.size() + 1), "t" + gap() + number(random.nextInt(3)));
        }
        if (random.nextBoolean()) {
            items.add(random.nextInt(items.size() + 1), "c" + gap() + number(random.nextInt(100)));
        }
        return spaced("s" + gap() + String.join(gap(), items));
    }

    private String number(int number) {
        return number < 10 && random.nextInt(4) == 0 ? "0" + number : "" + number;
    }

    private String row(int wide) {
        StringBuilder text = new StringBuilder("r");
        int told = random.nextInt(3) == 0 ? random.nextInt(wide + 1) : wide;
        for (int i = 0; i < told; i++) {
            text.append(gap()).append("0000000000111223".charAt(random.nextInt(16)));
        }
        return spaced(text.toString());
    }

    private String goer(int wide, int rows) {
        List<String> items = new ArrayList<>();
        items.add("x" + gap() + number(random.nextInt(wide)));
        items.add(random.nextInt(items.size() + 1), "y" + gap() + number(random.nextInt(rows)));
        if (random.nextInt(4) != 0) {
            items.add(random.nextInt(items.size() + 1), "b" + gap() + number(random.nextInt(4)));
        }
        if (random.nextInt(3) != 0) {
            items.add(random.nextInt(items.size() + 1), "p" + gap() + number(1 + random.nextInt(4)));
        }
        return spaced("g" + gap() + String.join(gap(), items));
    }

    String evening() {
        List<String> steps = new ArrayList<>();
        int count = 1 + random.nextInt(16);
        for (int i = 0; i < count; i++) {
            switch (random.nextInt(6)) {
                case 0:
                    steps.add(spaced("g" + gap() + random.nextInt(4) + gap() + random.nextInt(4)));
                    break;
                case 1:
                    steps.add(spaced("t" + gap() + random.nextInt(random.nextInt(5) == 0 ? 10 : 6)));
                    break;
                case 2:
                    steps.add(spaced("s" + gap() + random.nextInt(random.nextInt(9) == 0 ? 10 : 3) + gap()
                            + random.nextInt(10)));
                    break;
                default:
                    steps.add(spaced("h"));
                    break;
            }
        }
        return String.join(";", steps);
    }

    Law law() {
        for (int tries = 0; tries < 1000; tries++) {
            Law law = anyLaw();
            if (law.text().length() <= 240) {
                return law;
            }
        }
        return new Law("y:b", letters -> letters[0]);
    }

    private Law anyLaw() {
        int count = 1 + random.nextInt(4);
        StringBuilder text = new StringBuilder();
        List<Meaning> conditions = new ArrayList<>();
        List<Meaning> sums = new ArrayList<>();
        for (int i = 0; i < count; i++) {
            text.append(i > 0 ? ";" : "").append(spaced("y")).append(spaced(":"));
            if (random.nextInt(4) != 0) {
                Law condition = condition(0);
                text.append(condition.text()).append(spaced("?"));
                conditions.add(condition.worth());
            } else {
                conditions.add(letters -> 1);
            }
            Law sum = sum(0);
            text.append(sum.text());
            sums.add(sum.worth());
        }
        return new Law(text.toString(), letters -> {
            for (int i = 0; i < count; i++) {
                if (conditions.get(i).of(letters) != 0) {
                    return sums.get(i).of(letters);
                }
            }
            return 0;
        });
    }

    private Law condition(int depth) {
        Law all = truth(depth);
        for (int i = 0; random.nextInt(4) == 0 && i < 3; i++) {
            Law one = all;
            Law other = truth(depth);
            all = new Law(one.text() + spaced("|") + other.text(),
                    letters -> one.worth().of(letters) + other.worth().of(letters) > 0 ? 1 : 0);
        }
        return all;
    }

    private Law truth(int depth) {
        Law all = unit(depth);
        for (int i = 0; random.nextInt(4) == 0 && i < 3; i++) {
            Law one = all;
            Law other = unit(depth);
            all = new Law(one.text() + spaced("&") + other.text(),
                    letters -> one.worth().of(letters) * other.worth().of(letters));
        }
        return all;
    }

    private Law unit(int depth) {
        int sort = random.nextInt(8);
        if (sort == 0 && depth < 6) {
            Law unit = unit(depth + 1);
            return new Law(spaced("!") + unit.text(), letters -> unit.worth().of(letters) == 0 ? 1 : 0);
        }
        if (sort < 3 && depth < 6) {
            Law inner = condition(depth + 1);
            return new Law(spaced("(") + inner.text() + spaced(")"), inner.worth());
        }
        Law one = sum(depth);
        Law other = sum(depth);
        char sign = "=<>".charAt(random.nextInt(3));
        return new Law(one.text() + spaced("" + sign) + other.text(), letters -> {
            int order = Long.compare(one.worth().of(letters), other.worth().of(letters));
            return sign == '=' && order == 0 || sign == '<' && order < 0 || sign == '>' && order > 0 ? 1 : 0;
        });
    }

    private Law sum(int depth) {
        Law all = term(depth);
        for (int i = 0; random.nextInt(3) == 0 && i < 4; i++) {
            all = joined(all, random.nextBoolean() ? '+' : '-', term(depth));
        }
        return all;
    }

    private Law term(int depth) {
        Law all = atom(depth);
        for (int i = 0; random.nextInt(4) == 0 && i < 4; i++) {
            all = joined(all, random.nextBoolean() ? '*' : '/', atom(depth));
        }
        return all;
    }

    private Law joined(Law one, char sign, Law other) {
        return new Law(one.text() + spaced("" + sign) + other.text(), letters -> {
            long left = one.worth().of(letters);
            long right = other.worth().of(letters);
            long worth = switch (sign) {
                case '+' -> left + right;
                case '-' -> left - right;
                case '*' -> left * right;
                default -> right == 0 ? 0 : left / right;
            };
            return Math.min(1000000, Math.max(-1000000, worth));
        });
    }

    private Law atom(int depth) {
        int sort = random.nextInt(9);
        if (sort == 0 && depth < 6) {
            Law inner = sum(depth + 1);
            return new Law(spaced("[") + inner.text() + spaced("]"), inner.worth());
        }
        if (sort < 4) {
            int number = random.nextInt(5) == 0 ? random.nextInt(10000) : random.nextInt(5);
            String text = random.nextInt(9) == 0 ? String.format("%04d", number) : "" + number;
            return new Law(spaced(text), letters -> number);
        }
        int letter = random.nextInt(6);
        return new Law(spaced("" + "barpnt".charAt(letter)), letters -> letters[letter]);
    }
}
