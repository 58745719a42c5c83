import java.util.ArrayDeque;
import java.util.ArrayList;
import java.util.Deque;
import java.util.HashMap;
import java.util.HashSet;
import java.util.List;
import java.util.Map;
import java.util.Set;
import java.util.TreeSet;
import java.util.function.Predicate;
import java.util.regex.Matcher;
import java.util.regex.Pattern;

/**
 * The promises said once more, as plainly as the library lets it: whole worlds are copied, sets are
 * sets. It takes well-made texts alone. SessionTest holds the class against it.
 */
final class Model {
    private static final int NONE = -1;
    private static final int HIDDEN = -1000000;
    private static final int[] DX = {0, 1, 0, -1};
    private static final int[] DY = {-1, 0, 1, 0};

    static final class Goer {
        int startX;
        int startY;
        int x;
        int y;
        int look;
        int pace;
        int went;
        int fate;

        Goer copy() {
            Goer copy = new Goer();
            copy.startX = startX;
            copy.startY = startY;
            copy.x = x;
            copy.y = y;
            copy.look = look;
            copy.pace = pace;
            copy.went = went;
            copy.fate = fate;
            return copy;
        }
    }

    final class World {
        int wide = 5;
        int rows = 4;
        int tide;
        int coins = 20;
        int meetings;
        int hours;
        int[][] kinds = new int[5][6];
        final List<Goer> goers = new ArrayList<>();
        final List<int[]> log = new ArrayList<>();
        Set<String> met = new HashSet<>();

        World copy() {
            World copy = new World();
            copy.wide = wide;
            copy.rows = rows;
            copy.tide = tide;
            copy.coins = coins;
            copy.meetings = meetings;
            copy.hours = hours;
            for (int y = 0; y < 5; y++) {
                copy.kinds[y] = kinds[y].clone();
            }
            for (Goer goer : goers) {
                copy.goers.add(goer.copy());
            }
            copy.log.addAll(log);
            return copy;
        }

        int cellOf(int goer) {
            return goers.get(goer).y * wide + goers.get(goer).x;
        }

        boolean goes(int goer) {
            return goers.get(goer).fate == 0;
        }

        boolean isUnder(int x, int y) {
            return kinds[y][x] == 2 || rows - y <= tide;
        }

        int lies(int x, int y) {
            if (x < 0 || y < 0 || x >= wide || y >= rows || kinds[y][x] == 1) {
                return 1;
            }
            return isUnder(x, y) ? 2 : kinds[y][x] == 3 ? 3 : 0;
        }

        void step(Goer goer) {
            int ahead = lies(goer.x + DX[goer.look], goer.y + DY[goer.look]);
            int right = (goer.look + 1) % 4;
            if (holding == NONE) {
                goer.look = ahead == 1 ? right : goer.look;
            } else {
                int rightLies = lies(goer.x + DX[right], goer.y + DY[right]);
                int[] letters = {goer.look, ahead, rightLies, goer.pace, goer.went % 100, hours % 24};
                goer.look = (int) ((laws.get(holding).of(letters) % 4 + 4) % 4);
            }
            int x = goer.x + DX[goer.look];
            int y = goer.y + DY[goer.look];
            int lies = lies(x, y);
            if (lies == 1) {
                return;
            }
            goer.x = x;
            goer.y = y;
            goer.went++;
            goer.fate = lies == 2 ? 2 : lies == 3 ? 1 : 0;
        }

        int hour() {
            int ended = 0;
            for (int i = 0; i < goers.size(); i++) {
                Goer goer = goers.get(i);
                boolean went = goer.fate == 0;
                if (went && isUnder(goer.x, goer.y)) {
                    goer.fate = 2;
                }
                for (int step = 0; step < goer.pace; step++) {
                    if (goer.fate == 0) {
                        step(goer);
                    }
                }
                ended += went && goer.fate != 0 ? 1 << i : 0;
            }
            met = new HashSet<>();
            Set<Integer> turning = new HashSet<>();
            int pairs = 0;
            for (int i = 0; i < goers.size(); i++) {
                for (int j = 0; j < i; j++) {
                    if (goes(i) && goes(j) && cellOf(i) == cellOf(j)) {
                        met.add(i + "," + j);
                        met.add(j + "," + i);
                        turning.add(i);
                        turning.add(j);
                        pairs++;
                    }
                }
            }
            for (int i : turning) {
                goers.get(i).look = (goers.get(i).look + 2) % 4;
            }
            meetings = Math.min(9999, meetings + pairs);
            hours++;
            log.add(new int[] {pairs, ended, tide});
            if (log.size() > 60) {
                log.remove(0);
            }
            return pairs;
        }

        void begin(int goer, int look) {
            Goer one = goers.get(goer);
            one.x = one.startX;
            one.y = one.startY;
            one.look = look;
            one.went = 0;
            one.fate = 0;
        }

        boolean isRockAtStart(int goer) {
            return kinds[goers.get(goer).startY][goers.get(goer).startX] == 1;
        }

        int going(int cell) {
            int going = 0;
            for (int i = 0; i < goers.size(); i++) {
                going += goes(i) && cellOf(i) == cell ? 1 : 0;
            }
            return going;
        }

        boolean isCell(int cell) {
            return cell >= 0 && cell < wide * rows;
        }

        int kind(int cell) {
            return kinds[cell / wide][cell % wide];
        }

        boolean isDry(int cell) {
            return kind(cell) != 1 && !isUnder(cell % wide, cell / wide);
        }

        Integer beside(int cell, int look) {
            int x = cell % wide + DX[look];
            int y = cell / wide + DY[look];
            return x < 0 || y < 0 || x >= wide || y >= rows ? null : y * wide + x;
        }

        /** What a step of an evening answers by hand: NONE where it can't be. */
        int act(int[] step) {
            switch (step[0]) {
                case 0:
                    return hours >= 9999 ? NONE : hour();
                case 1:
                    if (step[1] < 0 || step[1] >= goers.size() || step[2] < 0 || step[2] > 3 || coins < 3
                            || isRockAtStart(step[1])) {
                        return NONE;
                    }
                    coins -= 3;
                    begin(step[1], step[2]);
                    return cellOf(step[1]);
                case 2:
                    int was = tide;
                    if (step[1] < 0 || step[1] > 5 || step[1] == tide) {
                        return NONE;
                    }
                    tide = step[1];
                    return was;
                case 3:
                    int going = isCell(step[1]) ? going(step[1]) : 0;
                    if (going == 0 || coins < 1) {
                        return NONE;
                    }
                    coins--;
                    for (int i = 0; i < goers.size(); i++) {
                        if (goes(i) && cellOf(i) == step[1]) {
                            goers.get(i).fate = 2;
                        }
                    }
                    return going;
                case 4:
                    if (!isCell(step[1]) || kind(step[1]) > 1 || going(step[1]) > 0 || coins < 2) {
                        return NONE;
                    }
                    coins -= 2;
                    kinds[step[1] / wide][step[1] % wide] ^= 1;
                    return kind(step[1]);
                default:
                    if (step[1] < 1 || step[1] > 50 || coins + step[1] > 999) {
                        return NONE;
                    }
                    coins += step[1];
                    return coins;
            }
        }
    }

    final List<Texts.Meaning> laws = new ArrayList<>();
    final List<List<int[]>> evenings = new ArrayList<>();
    private final List<int[]> seen = new ArrayList<>();
    private final Deque<World> acts = new ArrayDeque<>();
    private World told;
    World now;
    private World image;
    private int holding = NONE;
    private int children = 3;

    void tellShore(String text) {
        told = new World();
        int row = 0;
        for (String clause : text.replace(" ", "").split(";")) {
            if (clause.startsWith("s")) {
                told.wide = item(clause, "w", 5);
                told.rows = item(clause, "h", 4);
                told.tide = item(clause, "t", 0);
                told.coins = item(clause, "c", 20);
            } else if (clause.startsWith("r")) {
                for (int x = 1; x < clause.length(); x++) {
                    told.kinds[row][x - 1] = clause.charAt(x) - '0';
                }
                row++;
            } else {
                Goer goer = new Goer();
                goer.startX = item(clause, "x", 0);
                goer.startY = item(clause, "y", 0);
                goer.x = goer.startX;
                goer.y = goer.startY;
                goer.look = item(clause, "b", 1);
                goer.pace = item(clause, "p", 1);
                told.goers.add(goer);
            }
        }
        now = told.copy();
        image = null;
        acts.clear();
        seen.clear();
    }

    private static int item(String clause, String letter, int usual) {
        Matcher matcher = Pattern.compile(letter + "(\\d+)").matcher(clause);
        return matcher.find() ? Integer.parseInt(matcher.group(1)) : usual;
    }

    void tellEvening(String text) {
        List<int[]> steps = new ArrayList<>();
        for (String step : text.replace(" ", "").split(";")) {
            int what = "hgts".indexOf(step.charAt(0));
            int first = what == 0 ? NONE : step.charAt(1) - '0';
            int second = what == 1 ? step.charAt(2) - '0' : NONE;
            steps.add(new int[] {what, what == 3 ? Integer.parseInt(step.substring(1)) : first, second});
        }
        evenings.add(steps);
    }

    private boolean isGoer(int goer) {
        return now != null && goer >= 0 && goer < now.goers.size();
    }

    private boolean isPair(int one, int other) {
        return isGoer(one) && isGoer(other) && one != other;
    }

    private boolean isCell(int cell) {
        return now != null && now.isCell(cell);
    }

    private int byHand(int... step) {
        if (now == null) {
            return NONE;
        }
        World before = now.copy();
        int answer = now.act(step);
        if (answer != NONE) {
            keep(before);
        }
        return answer;
    }

    private void keep(World before) {
        acts.push(before);
        if (acts.size() > 40) {
            acts.removeLast();
        }
    }

    int shore(int cell, int what) {
        if (!isCell(cell) || what < 0 || what > 1) {
            return NONE;
        }
        return what == 0 ? now.kind(cell) : now.isUnder(cell % now.wide, cell / now.wide) ? 1 : 0;
    }

    /** NONE stands for the exception here: no answer is below 0. */
    int goer(int goer, int what) {
        if (!isGoer(goer) || what < 0 || what > 4) {
            return NONE;
        }
        Goer one = now.goers.get(goer);
        return new int[] {now.cellOf(goer), one.look, one.pace, one.went, one.fate}[what];
    }

    boolean law(int law) {
        if (law < NONE || law >= laws.size()) {
            return false;
        }
        holding = law;
        return true;
    }

    boolean children(int v) {
        if (v < 0 || v > 9 || v == children) {
            return false;
        }
        children = v;
        return true;
    }

    int hour() {
        return byHand(0);
    }

    int tide(int v) {
        return byHand(2, v);
    }

    int stone(int cell) {
        return byHand(4, cell);
    }

    int sweep(int cell) {
        return byHand(3, cell);
    }

    int anew(int goer, int look) {
        return byHand(1, goer, look);
    }

    int give(int n) {
        return byHand(5, n);
    }

    private long drawn;

    private int draw(int j) {
        drawn = drawn * 6364136223846793005L + 1442695040888963407L;
        return (int) ((drawn >>> 33) % j);
    }

    int years(int n, long seed) {
        if (now == null || n < 1 || n > 30 || now.hours + n > 9999) {
            return NONE;
        }
        drawn = seed;
        for (int i = 0; i < n; i++) {
            keep(now.copy());
            now.tide = draw(6);
            if (draw(10) < children) {
                int goer = draw(now.goers.size());
                int look = draw(4);
                if (!now.isRockAtStart(goer)) {
                    now.begin(goer, look);
                }
            }
            now.hour();
        }
        return now.hours;
    }

    int undo() {
        if (acts.isEmpty()) {
            return NONE;
        }
        now = acts.pop();
        return acts.size();
    }

    int log(int i, int what) {
        if (now == null || i < 0 || i >= now.log.size() || what < 0 || what > 2) {
            return NONE;
        }
        return now.log.get(now.log.size() - 1 - i)[what];
    }

    int step(int evening, int i, int what) {
        if (evening < 0 || evening >= evenings.size() || i < 0 || i >= evenings.get(evening).size() || what < 0
                || what > 2) {
            return HIDDEN;
        }
        return evenings.get(evening).get(i)[what];
    }

    int run(int evening, int what) {
        if (now == null || evening < 0 || evening >= evenings.size() || what < 0 || what > 1) {
            return HIDDEN;
        }
        World apart = now.copy();
        int meetings = 0;
        int at = 0;
        for (int[] step : evenings.get(evening)) {
            int answer = apart.act(step);
            if (answer == NONE) {
                return what == 0 ? at : meetings;
            }
            meetings += step[0] == 0 ? answer : 0;
            at++;
        }
        return what == 0 ? NONE : meetings;
    }

    int perform(int evening) {
        if (now == null || evening < 0 || evening >= evenings.size()) {
            return NONE;
        }
        int done = 0;
        for (int[] step : evenings.get(evening)) {
            if (byHand(step) == NONE) {
                break;
            }
            done++;
        }
        return done;
    }

    int where(int goer, int n) {
        if (!isGoer(goer) || n < 0 || n > 99) {
            return NONE;
        }
        World apart = now.copy();
        for (int i = 0; i < n; i++) {
            apart.hour();
        }
        return apart.cellOf(goer);
    }

    /** The first of these hours behind which it is so. */
    private int first(World from, int least, int most, Predicate<World> isSo) {
        World apart = from.copy();
        for (int i = 0; i <= most; i++) {
            if (i >= least && isSo.test(apart)) {
                return i;
            }
            apart.hour();
        }
        return NONE;
    }

    int meet(int one, int other) {
        return isPair(one, other) ? first(now, 1, 99, world -> world.met.contains(one + "," + other)) : NONE;
    }

    int ends(int goer, int what) {
        if (!isGoer(goer) || what < 0 || what > 1) {
            return NONE;
        }
        int hours = first(now, 0, 99, world -> !world.goes(goer));
        if (hours == NONE || what == 0) {
            return hours;
        }
        World apart = now.copy();
        for (int i = 0; i < hours; i++) {
            apart.hour();
        }
        return apart.goers.get(goer).fate;
    }

    int again(int goer) {
        if (!isGoer(goer) || !now.goes(goer)) {
            return NONE;
        }
        return first(now, 1, 99, world -> world.goes(goer) && world.cellOf(goer) == now.cellOf(goer)
                && world.goers.get(goer).look == now.goers.get(goer).look);
    }

    private Map<Integer, Integer> distances(int from) {
        Map<Integer, Integer> far = new HashMap<>();
        Deque<Integer> queue = new ArrayDeque<>();
        if (now.isDry(from)) {
            far.put(from, 0);
            queue.add(from);
        }
        while (!queue.isEmpty()) {
            int cell = queue.remove();
            for (int look = 0; look < 4; look++) {
                Integer next = now.beside(cell, look);
                if (next != null && now.isDry(next) && !far.containsKey(next)) {
                    far.put(next, far.get(cell) + 1);
                    queue.add(next);
                }
            }
        }
        return far;
    }

    int way(int from, int to) {
        return isCell(from) && isCell(to) ? distances(from).getOrDefault(to, NONE) : NONE;
    }

    int stones(int one, int other, int n, int what) {
        if (!isPair(one, other) || n < 1 || n > 20 || what < 0 || what > 1) {
            return NONE;
        }
        int cells = now.wide * now.rows;
        List<int[]> tries = new ArrayList<>();
        tries.add(new int[0]);
        for (int low = 0; low < cells; low++) {
            tries.add(new int[] {low});
        }
        for (int low = 0; low < cells; low++) {
            for (int high = low + 1; high < cells; high++) {
                tries.add(new int[] {low, high});
            }
        }
        for (int[] stones : tries) {
            World apart = now.copy();
            boolean free = true;
            for (int cell : stones) {
                free &= now.kind(cell) == 0 && now.going(cell) == 0;
                apart.kinds[cell / now.wide][cell % now.wide] = 1;
            }
            if (free && first(apart, 1, n, world -> world.met.contains(one + "," + other)) == NONE) {
                int told = stones.length == 0 ? NONE : stones.length == 1 ? stones[0] : stones[0] * 100 + stones[1];
                return what == 0 ? stones.length : told;
            }
        }
        return NONE;
    }

    int seen(int goer, int n, int cell) {
        if (!isGoer(goer) || !isCell(cell) || n < 0 || n > 30 || seen.size() == 10) {
            return NONE;
        }
        seen.add(new int[] {goer, n, cell});
        return seen.size();
    }

    private int alone(int goer, int told10, int n) {
        World apart = told.copy();
        Goer one = apart.goers.get(goer);
        one.look = told10 % 10;
        one.pace = told10 / 10;
        apart.goers.clear();
        apart.goers.add(one);
        for (int i = 0; i < n; i++) {
            apart.hour();
        }
        return apart.cellOf(0);
    }

    private List<Integer> fitting(int goer) {
        Set<Integer> fitting = new TreeSet<>();
        for (int pace = 1; pace <= 4; pace++) {
            for (int look = 0; look < 4; look++) {
                int guess = 10 * pace + look;
                if (seen.stream().allMatch(one -> one[0] != goer || alone(goer, guess, one[1]) == one[2])) {
                    fitting.add(guess);
                }
            }
        }
        return new ArrayList<>(fitting);
    }

    int fits(int goer, int i) {
        return isGoer(goer) ? nth(fitting(goer), i) : NONE;
    }

    private static int nth(List<Integer> list, int i) {
        return i == NONE ? list.size() : i >= 0 && i < list.size() ? list.get(i) : NONE;
    }

    int ask(int goer) {
        if (!isGoer(goer) || fitting(goer).isEmpty()) {
            return NONE;
        }
        int best = NONE;
        int fewest = 100;
        for (int n = 1; n <= 30; n++) {
            Map<Integer, Integer> tellers = new HashMap<>();
            for (int guess : fitting(goer)) {
                tellers.merge(alone(goer, guess, n), 1, Integer::sum);
            }
            int most = tellers.values().stream().max(Integer::compare).orElse(0);
            if (most < fewest) {
                fewest = most;
                best = n;
            }
        }
        return best;
    }

    int game(int one, int other, int x, int y, int what) {
        if (!isPair(one, other) || !now.goes(one) || !now.goes(other) || x < 0 || x > 3 || y < 0 || y > 3
                || what < 0 || what > 1) {
            return HIDDEN;
        }
        World apart = now.copy();
        apart.goers.get(one).look = x;
        apart.goers.get(other).look = y;
        int mine = what == 0 ? one : other;
        Set<Integer> cells = new HashSet<>();
        boolean met = false;
        for (int i = 0; i < 6; i++) {
            apart.hour();
            cells.add(apart.cellOf(mine));
            met |= apart.met.contains(one + "," + other);
        }
        cells.remove(now.cellOf(mine));
        return cells.size() - (met ? 3 : 0);
    }

    int rests(int one, int other, int i) {
        if (!isPair(one, other) || !now.goes(one) || !now.goes(other)) {
            return NONE;
        }
        List<Integer> rests = new ArrayList<>();
        for (int x = 0; x < 4; x++) {
            for (int y = 0; y < 4; y++) {
                boolean rest = true;
                for (int z = 0; z < 4; z++) {
                    rest &= game(one, other, z, y, 0) <= game(one, other, x, y, 0);
                    rest &= game(one, other, x, z, 1) <= game(one, other, x, y, 1);
                }
                if (rest) {
                    rests.add(10 * x + y);
                }
            }
        }
        return nth(rests, i);
    }

    int odds(int goer, int cell, int n, int chance) {
        if (!isGoer(goer) || !isCell(cell) || n < 0 || n > 6 || chance < 0 || chance > 100) {
            return NONE;
        }
        return (int) odds(now, goer, cell, n, chance, 1000000000L);
    }

    private long odds(World from, int goer, int cell, int n, int chance, long parts) {
        if (n == 0) {
            return from.cellOf(goer) == cell ? parts : 0;
        }
        World plain = from.copy();
        plain.hour();
        if (!from.goes(goer)) {
            return odds(plain, goer, cell, n - 1, chance, parts);
        }
        World turned = from.copy();
        turned.goers.get(goer).look = (turned.goers.get(goer).look + 1) % 4;
        turned.hour();
        long turning = parts * chance / 100;
        return odds(plain, goer, cell, n - 1, chance, parts - turning)
                + odds(turned, goer, cell, n - 1, chance, turning);
    }

    int shares(int goer, int c) {
        if (!isGoer(goer) || c < 0 || c > 999) {
            return NONE;
        }
        int sum = now.goers.stream().mapToInt(one -> one.went).sum();
        return sum == 0 ? 0 : c * now.goers.get(goer).went / sum;
    }

    int ahead(int goer) {
        if (!isGoer(goer) || !now.goes(goer)) {
            return NONE;
        }
        World apart = now.copy();
        Goer one = apart.goers.get(goer);
        if (apart.isUnder(one.x, one.y)) {
            return NONE;
        }
        apart.step(one);
        return apart.cellOf(goer);
    }

    int all(int what) {
        if (now == null || what < 0 || what > 9) {
            return NONE;
        }
        int best = 0;
        int bits = 0;
        for (int i = 0; i < now.goers.size(); i++) {
            Goer one = now.goers.get(i);
            Goer ahead = now.goers.get(best);
            best = what == 0 && one.went > ahead.went || what == 1 && one.pace > ahead.pace ? i : best;
            bits |= one.fate == what - 2 ? 1 << i : 0;
        }
        if (what < 2) {
            return best;
        }
        return what < 5 ? bits : ofCells(what);
    }

    private int ofCells(int what) {
        int dry = 0;
        int crowd = 0;
        int busy = 0;
        Set<Set<Integer>> parts = new HashSet<>();
        for (int cell = 0; cell < now.wide * now.rows; cell++) {
            dry += now.isDry(cell) ? 1 : 0;
            crowd = Math.max(crowd, now.going(cell));
            busy |= now.going(cell) > 0 ? 1 << cell : 0;
            if (now.isDry(cell)) {
                parts.add(distances(cell).keySet());
            }
        }
        int faced = 0;
        for (int i = 0; i < now.goers.size(); i++) {
            for (int j = 0; j < i; j++) {
                Integer one = now.beside(now.cellOf(i), now.goers.get(i).look);
                Integer other = now.beside(now.cellOf(j), now.goers.get(j).look);
                faced += now.goes(i) && now.goes(j) && one != null && other != null && one == now.cellOf(j)
                        && other == now.cellOf(i) ? 1 : 0;
            }
        }
        return new int[] {dry, parts.size(), crowd, busy, faced}[what - 5];
    }

    int image() {
        if (now == null) {
            return NONE;
        }
        image = now.copy();
        return now.hours;
    }

    int back() {
        if (image == null) {
            return NONE;
        }
        now = image.copy();
        acts.clear();
        return now.hours;
    }

    int count(int what) {
        boolean none = now == null;
        switch (what) {
            case 0:
                return none ? 0 : now.wide * now.rows;
            case 1:
                return none ? 0 : now.goers.size();
            case 2:
                return laws.size();
            case 3:
                return evenings.size();
            case 4:
                return 0;
            case 5:
                return holding;
            case 6:
                return none ? 0 : now.hours;
            case 7:
                return none ? 0 : now.coins;
            case 8:
                return none ? 0 : now.tide;
            case 9:
                return none ? 0 : now.meetings;
            case 10:
                return children;
            case 11:
                return seen.size();
            case 12:
                return none ? 0 : now.log.size();
            case 13:
                return acts.size();
            default:
                return HIDDEN;
        }
    }
}
