import java.util.ArrayList;
import java.util.HashMap;
import java.util.LinkedHashSet;
import java.util.List;
import java.util.Map;
import java.util.Set;

/**
 * Tells by a grammar alone where a text can't go on: the first byte behind which no derivation is
 * left. It knows nothing of how the class reads, so it can be held against it. No rule is empty.
 */
final class Earley {
    private static final int COMPLETE = -1;

    /** A name stands for a rule, a sign of one letter behind ' for itself. */
    private final Map<String, List<String[]>> rules = new HashMap<>();
    private final String start;

    Earley(String start) {
        this.start = start;
    }

    /** Alternatives are told with a blank between their parts. */
    void rule(String name, String... alternatives) {
        List<String[]> list = rules.computeIfAbsent(name, key -> new ArrayList<>());
        for (String alternative : alternatives) {
            list.add(alternative.split(" "));
        }
    }

    /** A sign behind which blanks may stand. */
    void token(String name, String signs) {
        for (char sign : signs.toCharArray()) {
            rule(name, "'" + sign, "'" + sign + " BLANKS");
        }
    }

    void blanks() {
        rule("BLANKS", "'_", "'_ BLANKS");
    }

    private record Item(String name, String[] parts, int dot, int from) {
        String next() {
            return dot < parts.length ? parts[dot] : null;
        }

        Item moved() {
            return new Item(name, parts, dot + 1, from);
        }
    }

    /** The first byte that can't be, the length if it ends too early, -1 if there is no fault. */
    int fault(String text) {
        List<Set<Item>> sets = new ArrayList<>();
        sets.add(new LinkedHashSet<>());
        predict(sets.get(0), start, 0);
        for (int at = 0; at <= text.length(); at++) {
            close(sets, at);
            if (at == text.length()) {
                break;
            }
            char sign = text.charAt(at) == ' ' ? '_' : text.charAt(at);
            Set<Item> behind = new LinkedHashSet<>();
            for (Item item : sets.get(at)) {
                String next = item.next();
                if (next != null && next.length() == 2 && next.charAt(0) == '\'' && next.charAt(1) == sign) {
                    behind.add(item.moved());
                }
            }
            if (behind.isEmpty()) {
                return at;
            }
            sets.add(behind);
        }
        for (Item item : sets.get(text.length())) {
            if (item.next() == null && item.from() == 0 && item.name().equals(start)) {
                return COMPLETE;
            }
        }
        return text.length();
    }

    private void predict(Set<Item> set, String name, int at) {
        for (String[] parts : rules.get(name)) {
            set.add(new Item(name, parts, 0, at));
        }
    }

    private void close(List<Set<Item>> sets, int at) {
        Set<Item> set = sets.get(at);
        List<Item> waiting = new ArrayList<>(set);
        for (int i = 0; i < waiting.size(); i++) {
            Item item = waiting.get(i);
            Set<Item> more = new LinkedHashSet<>();
            if (item.next() == null) {
                for (Item parent : new ArrayList<>(sets.get(item.from()))) {
                    if (item.name().equals(parent.next())) {
                        more.add(parent.moved());
                    }
                }
            } else if (item.next().charAt(0) != '\'') {
                predict(more, item.next(), at);
            }
            for (Item one : more) {
                if (set.add(one)) {
                    waiting.add(one);
                }
            }
        }
    }
}
