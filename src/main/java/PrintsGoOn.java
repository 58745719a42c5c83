import java.util.Arrays;
import java.util.NoSuchElementException;

/**
 * A shore on which footprints go on without those who left them. Texts come by a tape; what is
 * asked ahead of time is played on a spare scene, so that asking never changes the shore.
 */
public final class PrintsGoOn {
    public static final int NONE = -1;
    public static final int HIDDEN = -1000000;

    private static final int NO_SORT = -2;
    private static final int SHORE_SORT = 0;
    private static final int LAW_SORT = 1;
    private static final int EVENING_SORT = 2;
    private static final int MOST_TEXTS = 4;
    private static final int MOST_YEARS = 30;
    private static final int FAR_HOURS = 99;
    private static final int MOST_STONE_HOURS = 20;
    private static final int MOST_WIND_HOURS = 6;
    private static final int MOST_SHARED = 999;
    private static final long DRAW_TIMES = 6364136223846793005L;
    private static final long DRAW_PLUS = 1442695040888963407L;

    private final Tape tape;
    private final ShoreReader shoreReader;
    private final LawReader lawReader;
    private final EveningReader eveningReader;
    private final Law[] laws;
    private final Evening[] evenings;
    private final Scene told;
    private final Scene now;
    private final Scene spare;
    private final Walker walker;
    private final Past past;
    private final Foresight foresight;
    private final Sightings sightings;
    private int lawCount;
    private int eveningCount;
    private int holding;
    private int childrenBelow;
    private long drawn;

    public PrintsGoOn() {
        tape = new Tape();
        shoreReader = new ShoreReader(tape);
        lawReader = new LawReader(tape);
        eveningReader = new EveningReader(tape);
        laws = new Law[MOST_TEXTS];
        evenings = new Evening[MOST_TEXTS];
        told = new Scene();
        now = new Scene();
        spare = new Scene();
        walker = new Walker();
        past = new Past();
        foresight = new Foresight(now, spare, walker);
        sightings = new Sightings(told, spare, walker);
        holding = NONE;
        childrenBelow = 3;
    }

    public int feed(int a, int b, int c, int d, int e) {
        int more = Tape.filled(a) + Tape.filled(b) + Tape.filled(c) + Tape.filled(d) + Tape.filled(e);
        if (tape.length + more > Tape.MOST) {
            return NONE;
        }
        tape.add(a);
        tape.add(b);
        tape.add(c);
        tape.add(d);
        tape.add(e);
        return tape.length;
    }

    public boolean end(int n) {
        if (n < 0 || n > tape.length) {
            return false;
        }
        tape.length = n;
        return true;
    }

    public int fault(int sort) {
        switch (sort) {
            case SHORE_SORT:
                return shoreReader.readShore() ? NONE : tape.fault;
            case LAW_SORT:
                return lawReader.readLaw() ? NONE : tape.fault;
            case EVENING_SORT:
                return eveningReader.readEvening() ? NONE : tape.fault;
            default:
                return NO_SORT;
        }
    }

    public int text(int sort) {
        int number = NONE;
        if (sort == SHORE_SORT && shoreReader.readShore()) {
            number = takeShore();
        } else if (sort == LAW_SORT && lawCount < MOST_TEXTS && lawReader.readLaw()) {
            laws[lawCount] = lawReader.made();
            number = lawCount;
            lawCount++;
        } else if (sort == EVENING_SORT && eveningCount < MOST_TEXTS && eveningReader.readEvening()) {
            evenings[eveningCount] = eveningReader.made();
            number = eveningCount;
            eveningCount++;
        }
        if (number != NONE) {
            tape.length = 0;
        }
        return number;
    }

    private int takeShore() {
        shoreReader.tell(told);
        now.copy(told);
        past.forget();
        sightings.forget();
        return now.cells();
    }

    public int shore(int cell, int what) {
        if (!now.hasCell(cell)) {
            return NONE;
        }
        if (what == 0) {
            return now.kind(cell);
        }
        if (what == 1) {
            return now.under(cell) ? 1 : 0;
        }
        return NONE;
    }

    public int goer(int goer, int what) throws NoSuchElementException {
        if (!now.hasGoer(goer)) {
            throw new NoSuchElementException("no such goer");
        }
        switch (what) {
            case 0:
                return now.v[Scene.CELL + goer];
            case 1:
                return now.v[Scene.LOOK + goer];
            case 2:
                return now.v[Scene.PACE + goer];
            case 3:
                return now.v[Scene.WENT + goer];
            case 4:
                return now.v[Scene.FATE + goer];
            default:
                throw new NoSuchElementException("nothing of this kind is told of a goer");
        }
    }

    public boolean law(int law) {
        if (law < NONE || law >= lawCount) {
            return false;
        }
        holding = law;
        walker.law = law == NONE ? null : laws[law];
        return true;
    }

    public boolean children(int v) {
        if (v < 0 || v > 9 || v == childrenBelow) {
            return false;
        }
        childrenBelow = v;
        return true;
    }

    public int hour() {
        if (!now.mayPassHour()) {
            return NONE;
        }
        past.keep(now);
        return passNow();
    }

    private int passNow() {
        int met = walker.passHour(now);
        past.note(now.v[Scene.HOUR], met, walker.ended, now.v[Scene.TIDE]);
        return met;
    }

    public int tide(int v) {
        if (!now.mayTurnTide(v)) {
            return NONE;
        }
        int before = now.v[Scene.TIDE];
        past.keep(now);
        now.v[Scene.TIDE] = v;
        return before;
    }

    public int stone(int cell) {
        if (!now.mayTurnStone(cell)) {
            return NONE;
        }
        past.keep(now);
        now.turnStone(cell);
        return now.kind(cell);
    }

    public int sweep(int cell) {
        if (!now.maySweep(cell)) {
            return NONE;
        }
        past.keep(now);
        return now.sweepOff(cell);
    }

    public int anew(int goer, int look) {
        if (!now.mayBegin(goer, look)) {
            return NONE;
        }
        past.keep(now);
        now.payAndBegin(goer, look);
        return now.v[Scene.CELL + goer];
    }

    public int give(int n) {
        if (!now.mayBeGiven(n)) {
            return NONE;
        }
        past.keep(now);
        now.v[Scene.COINS] += n;
        return now.v[Scene.COINS];
    }

    public int years(int n, long seed) {
        if (!now.hasShore() || n < 1 || n > MOST_YEARS || now.v[Scene.HOUR] + n > Scene.LAST_HOUR) {
            return NONE;
        }
        drawn = seed;
        for (int i = 0; i < n; i++) {
            past.keep(now);
            now.v[Scene.TIDE] = draw(6);
            if (draw(10) < childrenBelow) {
                int goer = draw(now.v[Scene.GOERS]);
                int look = draw(4);
                if (now.kind(now.v[Scene.START + goer]) != Scene.ROCK) {
                    now.begin(goer, look);
                }
            }
            passNow();
        }
        return now.v[Scene.HOUR];
    }

    private int draw(int j) {
        drawn = drawn * DRAW_TIMES + DRAW_PLUS;
        return j < 1 ? 0 : (int) ((drawn >>> 33) % j);
    }

    public int undo() {
        return past.takeBack(now) ? past.acts : NONE;
    }

    public int log(int i, int what) {
        if (i < 0 || i >= Past.logLength(now) || what < 0 || what > 2) {
            return NONE;
        }
        return past.noted(now.v[Scene.HOUR] - 1 - i, what);
    }

    public int step(int evening, int i, int what) {
        Evening steps = eveningOf(evening);
        if (steps == null || i < 0 || i >= steps.size || what < 0 || what > 2) {
            return HIDDEN;
        }
        return steps.part(i, what);
    }

    private Evening eveningOf(int number) {
        return number >= 0 && number < eveningCount ? evenings[number] : null;
    }

    public int run(int evening, int what) {
        Evening steps = eveningOf(evening);
        if (steps == null || !now.hasShore() || what < 0 || what > 1) {
            return HIDDEN;
        }
        spare.copy(now);
        int meetings = 0;
        for (int i = 0; i < steps.size; i++) {
            if (!steps.mayBe(i, spare)) {
                return what == 0 ? i : meetings;
            }
            if (steps.isHour(i)) {
                meetings += walker.passHour(spare);
            } else {
                steps.doByHand(i, spare);
            }
        }
        return what == 0 ? NONE : meetings;
    }

    public int perform(int evening) {
        Evening steps = eveningOf(evening);
        if (steps == null || !now.hasShore()) {
            return NONE;
        }
        for (int i = 0; i < steps.size; i++) {
            if (!steps.mayBe(i, now)) {
                return i;
            }
            past.keep(now);
            if (steps.isHour(i)) {
                passNow();
            } else {
                steps.doByHand(i, now);
            }
        }
        return steps.size;
    }

    public int where(int goer, int n) {
        if (!now.hasGoer(goer) || n < 0 || n > FAR_HOURS) {
            return NONE;
        }
        return foresight.cellBehind(goer, n);
    }

    public int meet(int one, int other) {
        return now.hasPair(one, other) ? foresight.firstMeeting(one, other) : NONE;
    }

    public int ends(int goer, int what) {
        if (!now.hasGoer(goer) || what < 0 || what > 1) {
            return NONE;
        }
        return foresight.endOf(goer, what);
    }

    public int again(int goer) {
        if (!now.hasGoer(goer) || !now.goes(goer)) {
            return NONE;
        }
        return foresight.sameAgain(goer);
    }

    public int way(int from, int to) {
        return now.hasCell(from) && now.hasCell(to) ? now.fewestSteps(from, to) : NONE;
    }

    public int stones(int one, int other, int n, int what) {
        if (!now.hasPair(one, other) || n < 1 || n > MOST_STONE_HOURS || what < 0 || what > 1) {
            return NONE;
        }
        if (foresight.apartAnyway(one, other, n)) {
            return what == 0 ? 0 : NONE;
        }
        int cells = foresight.oneStone(one, other, n);
        int howMany = 1;
        if (cells == NONE) {
            cells = foresight.twoStones(one, other, n);
            howMany = 2;
        }
        return what == 1 || cells == NONE ? cells : howMany;
    }

    public int seen(int goer, int n, int cell) {
        if (!now.hasGoer(goer) || !now.hasCell(cell) || n < 0 || n > Sightings.LAST) {
            return NONE;
        }
        return sightings.add(goer, n, cell) ? sightings.size : NONE;
    }

    public int fits(int goer, int i) {
        if (!now.hasGoer(goer)) {
            return NONE;
        }
        int fitting = sightings.fitting(goer);
        return i == NONE ? Integer.bitCount(fitting) : sightings.fit(fitting, i);
    }

    public int ask(int goer) {
        return now.hasGoer(goer) ? sightings.bestHour(sightings.fitting(goer)) : NONE;
    }

    public int game(int one, int other, int x, int y, int what) {
        if (!now.hasGoingPair(one, other) || what < 0 || what > 1) {
            return HIDDEN;
        }
        if (!Scene.isLook(x) || !Scene.isLook(y)) {
            return HIDDEN;
        }
        foresight.play(one, other, x, y);
        return what == 0 ? foresight.firstHas : foresight.secondHas;
    }

    public int rests(int one, int other, int i) {
        if (!now.hasGoingPair(one, other)) {
            return NONE;
        }
        int resting = foresight.restsOf(one, other);
        return i == NONE ? Integer.bitCount(resting) : foresight.rest(resting, i);
    }

    public int odds(int goer, int cell, int n, int chance) {
        if (!now.hasGoer(goer) || !now.hasCell(cell)) {
            return NONE;
        }
        if (n < 0 || n > MOST_WIND_HOURS || chance < 0 || chance > 100) {
            return NONE;
        }
        return foresight.partsOn(goer, cell, n, chance);
    }

    public int shares(int goer, int c) {
        if (!now.hasGoer(goer) || c < 0 || c > MOST_SHARED) {
            return NONE;
        }
        int sum = now.wentInAll();
        return sum < 1 ? 0 : c * now.v[Scene.WENT + goer] / sum;
    }

    public int ahead(int goer) {
        if (!now.hasGoer(goer) || !now.goes(goer) || now.under(now.v[Scene.CELL + goer])) {
            return NONE;
        }
        spare.copy(now);
        walker.takeStep(spare, goer);
        return spare.v[Scene.CELL + goer];
    }

    public int all(int what) {
        if (!now.hasShore()) {
            return NONE;
        }
        switch (what) {
            case 0:
                return now.goerWithMost(Scene.WENT);
            case 1:
                return now.goerWithMost(Scene.PACE);
            case 2:
                return now.goersWith(Scene.GOES);
            case 3:
                return now.goersWith(Scene.IN);
            case 4:
                return now.goersWith(Scene.GONE);
            case 5:
                return Integer.bitCount(now.dryCells());
            case 6:
                return now.dryParts();
            case 7:
                return now.crowd();
            case 8:
                return now.busyCells();
            case 9:
                return now.faced();
            default:
                return NONE;
        }
    }

    public int image() {
        if (!now.hasShore()) {
            return NONE;
        }
        past.keepImage(now);
        return now.v[Scene.HOUR];
    }

    public int back() {
        return past.bringBack(now) ? now.v[Scene.HOUR] : NONE;
    }

    public int count(int what) {
        switch (what) {
            case 0:
                return now.cells();
            case 1:
                return now.v[Scene.GOERS];
            case 2:
                return lawCount;
            case 3:
                return eveningCount;
            case 4:
                return tape.length;
            case 5:
                return holding;
            case 6:
                return now.v[Scene.HOUR];
            case 7:
                return now.v[Scene.COINS];
            case 8:
                return now.v[Scene.TIDE];
            case 9:
                return now.v[Scene.MEETINGS];
            case 10:
                return childrenBelow;
            case 11:
                return sightings.size;
            case 12:
                return Past.logLength(now);
            case 13:
                return past.acts;
            default:
                return HIDDEN;
        }
    }

    /** The bytes that were fed, and where reading them stands. */
    private static final class Tape {
        static final int MOST = 240;
        static final int END = -1;

        private static final int BLANK = 32;

        final int[] bytes = new int[MOST];
        int length;
        int at;
        int fault;
        int number;

        static int filled(int four) {
            int filled = 0;
            for (int shift = 24; shift >= 0; shift -= 8) {
                if ((four >>> shift & 255) != 0) {
                    filled++;
                }
            }
            return filled;
        }

        void add(int four) {
            for (int shift = 24; shift >= 0; shift -= 8) {
                int sign = four >>> shift & 255;
                if (sign != 0 && length < MOST) {
                    bytes[length] = sign;
                    length++;
                }
            }
        }

        void rewind() {
            at = 0;
            fault = NONE;
        }

        /** Passes blanks and tells the sign behind them. */
        int next() {
            while (at < length && bytes[at] == BLANK) {
                at++;
            }
            return at < length ? bytes[at] : END;
        }

        boolean accept(int sign) {
            if (next() != sign) {
                return false;
            }
            at++;
            return true;
        }

        boolean expect(int sign) {
            if (next() != sign) {
                return refuse(at);
            }
            at++;
            return true;
        }

        boolean refuse(int place) {
            fault = place;
            return false;
        }

        /** The digit right here, where no blank may stand ahead of it. */
        int digitHere() {
            if (at >= length || bytes[at] < '0' || bytes[at] > '9') {
                return NONE;
            }
            return bytes[at] - '0';
        }

        /** The digit that stands next behind blanks. */
        int nextDigit() {
            next();
            return digitHere();
        }

        boolean readDigit() {
            number = nextDigit();
            if (number == NONE) {
                return refuse(at);
            }
            at++;
            return true;
        }

        boolean readNumber(int mostDigits) {
            next();
            number = 0;
            int from = at;
            while (at < from + mostDigits && digitHere() != NONE) {
                number = number * 10 + digitHere();
                at++;
            }
            return at > from && digitHere() == NONE || refuse(at);
        }
    }

    /** Reads the tape as a shore. */
    private static final class ShoreReader {
        private static final int MOST_WIDE = 6;
        private static final int MOST_ROWS = 5;
        private static final int MOST_GOERS = 4;
        private static final int MOST_CLAUSES = 1 + MOST_ROWS + MOST_GOERS;
        private static final int ITEMS = 4;
        private static final int LEAST = 1;
        private static final int MOST = 2;
        private static final int USUAL = 3;

        /** Of each item: its letter, the least and the most it may be, and what it is untold. */
        private static final int[] RULE_ITEMS = {
            'w', 2, 6, 5, 'h', 2, 5, 4, 't', 0, 5, 0, 'c', 0, 99, 20
        };
        private static final int[] GOER_ITEMS = {
            'x', 0, 5, 0, 'y', 0, 4, 0, 'b', 0, 3, 1, 'p', 1, 4, 1
        };

        private final Tape tape;
        private final int[] rules = new int[ITEMS];
        private final int[] goers = new int[ITEMS * MOST_GOERS];
        private final int[] kinds = new int[MOST_WIDE * MOST_ROWS];
        private final int[] lengths = new int[MOST_ROWS];
        private boolean hasRules;
        private int rowCount;
        private int goerCount;

        ShoreReader(Tape tape) {
            this.tape = tape;
        }

        boolean readShore() {
            clear();
            for (int i = 0; i <= MOST_CLAUSES; i++) {
                if (!readClause()) {
                    return false;
                }
                if (tape.next() == Tape.END) {
                    return agrees() || tape.refuse(tape.at);
                }
                if (!tape.expect(';')) {
                    return false;
                }
            }
            return tape.refuse(tape.at);
        }

        private void clear() {
            tape.rewind();
            hasRules = false;
            rowCount = 0;
            goerCount = 0;
            Arrays.fill(kinds, Scene.SAND);
            Arrays.fill(lengths, 0);
            for (int i = 0; i < ITEMS; i++) {
                rules[i] = RULE_ITEMS[i * ITEMS + USUAL];
            }
        }

        private boolean readClause() {
            int sign = tape.next();
            if (sign == 's' && !hasRules) {
                tape.at++;
                hasRules = true;
                return readItems(RULE_ITEMS, rules, 0);
            }
            if (sign == 'r' && rowCount < MOST_ROWS) {
                tape.at++;
                rowCount++;
                return readRow(rowCount - 1);
            }
            if (sign == 'g' && goerCount < MOST_GOERS) {
                tape.at++;
                goerCount++;
                return readItems(GOER_ITEMS, goers, (goerCount - 1) * ITEMS);
            }
            return tape.refuse(tape.at);
        }

        private boolean readItems(int[] table, int[] into, int from) {
            for (int i = 0; i < ITEMS; i++) {
                into[from + i] = table[i * ITEMS + USUAL];
            }
            int told = 0;
            for (int i = 0; i < ITEMS; i++) {
                int item = itemOf(table, tape.next());
                if (item == NONE || (told >> item & 1) != 0) {
                    return endsClause();
                }
                told |= 1 << item;
                tape.at++;
                if (!tape.readNumber(2)) {
                    return false;
                }
                if (tape.number < table[item * ITEMS + LEAST] || tape.number > table[item * ITEMS + MOST]) {
                    return tape.refuse(tape.at - 1);
                }
                into[from + item] = tape.number;
            }
            return true;
        }

        private boolean endsClause() {
            int sign = tape.next();
            return sign == ';' || sign == Tape.END || tape.refuse(tape.at);
        }

        private static int itemOf(int[] table, int sign) {
            for (int i = 0; i < ITEMS; i++) {
                if (table[i * ITEMS] == sign) {
                    return i;
                }
            }
            return NONE;
        }

        private boolean readRow(int row) {
            for (int place = 0; place < MOST_WIDE; place++) {
                int kind = tape.nextDigit();
                if (kind == NONE) {
                    return true;
                }
                if (kind > Scene.HOTEL) {
                    return tape.refuse(tape.at);
                }
                tape.at++;
                kinds[row * MOST_WIDE + place] = kind;
                lengths[row] = place + 1;
            }
            return true;
        }

        /** Only the whole text shows whether rows and goers are within the shore. */
        private boolean agrees() {
            if (goerCount < 1 || rowCount > rules[1]) {
                return false;
            }
            for (int row = 0; row < rowCount; row++) {
                if (lengths[row] > rules[0]) {
                    return false;
                }
            }
            for (int goer = 0; goer < goerCount; goer++) {
                if (goers[goer * ITEMS] >= rules[0] || goers[goer * ITEMS + 1] >= rules[1]) {
                    return false;
                }
            }
            return true;
        }

        void tell(Scene scene) {
            Arrays.fill(scene.v, 0);
            int wide = rules[0];
            int rows = rules[1];
            scene.v[Scene.WIDE] = wide;
            scene.v[Scene.ROWS] = rows;
            scene.v[Scene.TIDE] = rules[2];
            scene.v[Scene.COINS] = rules[3];
            scene.v[Scene.GOERS] = goerCount;
            for (int row = 0; row < rows; row++) {
                for (int place = 0; place < wide; place++) {
                    scene.v[Scene.KIND + row * wide + place] = kinds[row * MOST_WIDE + place];
                }
            }
            for (int goer = 0; goer < goerCount; goer++) {
                int cell = goers[goer * ITEMS + 1] * wide + goers[goer * ITEMS];
                scene.v[Scene.START + goer] = cell;
                scene.v[Scene.CELL + goer] = cell;
                scene.v[Scene.LOOK + goer] = goers[goer * ITEMS + 2];
                scene.v[Scene.PACE + goer] = goers[goer * ITEMS + 3];
            }
        }
    }

    /** Reads the tape as a law, into code in which each sign stands behind what it joins. */
    private static final class LawReader {
        private static final int DEEPEST = 6;
        private static final int MOST_DIGITS = 4;

        private final Tape tape;
        private final int[] code = new int[Tape.MOST + 1];
        private int size;

        LawReader(Tape tape) {
            this.tape = tape;
        }

        Law made() {
            return new Law(Arrays.copyOf(code, size));
        }

        boolean readLaw() {
            tape.rewind();
            size = 0;
            for (int i = 0; i <= Tape.MOST; i++) {
                if (!tape.expect('y') || !tape.expect(':') || !readClause()) {
                    return false;
                }
                put(Law.DONE);
                if (tape.next() == Tape.END) {
                    return true;
                }
                if (!tape.expect(';')) {
                    return false;
                }
            }
            return tape.refuse(tape.at);
        }

        private void put(int op) {
            if (size < code.length) {
                code[size] = op;
                size++;
            }
        }

        /** A sum that is not compared is the clause's own: until then the two begin alike. */
        private boolean readClause() {
            int sign = tape.next();
            boolean begun = sign != '!' && sign != '(';
            if (begun && !readSum(0)) {
                return false;
            }
            if (begun && comparing(tape.next()) == NONE) {
                return true;
            }
            if (!readCondition(0, begun) || !tape.expect('?')) {
                return false;
            }
            put(Law.IF);
            return readSum(0);
        }

        /** Begun: the sum with which it begins has been read. */
        private boolean readCondition(int depth, boolean begun) {
            for (int i = 0; i < Tape.MOST; i++) {
                boolean read = i == 0 && begun ? readCompared(depth) : readUnit(depth);
                for (int j = 0; j < Tape.MOST && read && tape.accept('&'); j++) {
                    read = readUnit(depth);
                    put(Law.AND);
                }
                if (i > 0) {
                    put(Law.OR);
                }
                if (!read || !tape.accept('|')) {
                    return read;
                }
            }
            return tape.refuse(tape.at);
        }

        private boolean readUnit(int depth) {
            int sign = tape.next();
            if (sign != '!' && sign != '(') {
                return readSum(depth) && readCompared(depth);
            }
            if (depth >= DEEPEST) {
                return tape.refuse(tape.at);
            }
            tape.at++;
            if (sign == '(') {
                return readCondition(depth + 1, false) && tape.expect(')');
            }
            boolean read = readUnit(depth + 1);
            put(Law.NOT);
            return read;
        }

        private boolean readCompared(int depth) {
            int op = comparing(tape.next());
            if (op == NONE) {
                return tape.refuse(tape.at);
            }
            tape.at++;
            boolean read = readSum(depth);
            put(op);
            return read;
        }

        private static int comparing(int sign) {
            switch (sign) {
                case '=':
                    return Law.EQUAL;
                case '<':
                    return Law.LESS;
                case '>':
                    return Law.MORE;
                default:
                    return NONE;
            }
        }

        private boolean readSum(int depth) {
            int pending = NONE;
            for (int i = 0; i < Tape.MOST; i++) {
                boolean read = readAtom(depth);
                int op = joining(tape.next());
                for (int j = 0; j < Tape.MOST && read && (op == Law.TIMES || op == Law.BY); j++) {
                    tape.at++;
                    read = readAtom(depth);
                    put(op);
                    op = joining(tape.next());
                }
                if (pending != NONE) {
                    put(pending);
                }
                if (!read || op == NONE) {
                    return read;
                }
                tape.at++;
                pending = op;
            }
            return tape.refuse(tape.at);
        }

        private static int joining(int sign) {
            switch (sign) {
                case '+':
                    return Law.PLUS;
                case '-':
                    return Law.MINUS;
                case '*':
                    return Law.TIMES;
                case '/':
                    return Law.BY;
                default:
                    return NONE;
            }
        }

        private boolean readAtom(int depth) {
            int sign = tape.next();
            if (sign >= '0' && sign <= '9') {
                boolean read = tape.readNumber(MOST_DIGITS);
                put(tape.number);
                return read;
            }
            if (sign == '[' && depth < DEEPEST) {
                tape.at++;
                return readSum(depth + 1) && tape.expect(']');
            }
            int letter = Law.letterOf(sign);
            if (letter == NONE) {
                return tape.refuse(tape.at);
            }
            tape.at++;
            put(Law.FIRST_LETTER - letter);
            return true;
        }
    }

    /** Reads the tape as an evening. */
    private static final class EveningReader {
        private final Tape tape;
        private final int[] parts = new int[Evening.MOST_STEPS * Evening.PARTS];
        private int size;

        EveningReader(Tape tape) {
            this.tape = tape;
        }

        Evening made() {
            return new Evening(Arrays.copyOf(parts, size * Evening.PARTS), size);
        }

        boolean readEvening() {
            tape.rewind();
            size = 0;
            for (int i = 0; i < Evening.MOST_STEPS; i++) {
                if (!readStep(i * Evening.PARTS)) {
                    return false;
                }
                size++;
                if (tape.next() == Tape.END) {
                    return true;
                }
                if (size == Evening.MOST_STEPS || !tape.expect(';')) {
                    return tape.refuse(tape.at);
                }
            }
            return tape.refuse(tape.at);
        }

        private boolean readStep(int at) {
            switch (tape.next()) {
                case 'h':
                    tape.at++;
                    return putStep(at, Evening.HOUR, NONE, NONE);
                case 'g':
                    return readDigits(at, Evening.BEGIN, true);
                case 't':
                    return readDigits(at, Evening.TIDE, false);
                case 's':
                    return readDigits(at, Evening.SWEEP, true);
                default:
                    return tape.refuse(tape.at);
            }
        }

        private boolean readDigits(int at, int what, boolean two) {
            tape.at++;
            if (!tape.readDigit()) {
                return false;
            }
            int first = tape.number;
            if (!two) {
                return putStep(at, what, first, NONE);
            }
            if (!tape.readDigit()) {
                return false;
            }
            if (what == Evening.SWEEP) {
                return putStep(at, what, first * 10 + tape.number, NONE);
            }
            return putStep(at, what, first, tape.number);
        }

        private boolean putStep(int at, int what, int first, int second) {
            parts[at] = what;
            parts[at + 1] = first;
            parts[at + 2] = second;
            return true;
        }
    }

    /** A law as code: numbers stand for themselves, all else is below 0. */
    private static final class Law {
        static final int FIRST_LETTER = -1;
        static final int LETTERS = 6;
        static final int PLUS = -11;
        static final int MINUS = -12;
        static final int TIMES = -13;
        static final int BY = -14;
        static final int EQUAL = -15;
        static final int LESS = -16;
        static final int MORE = -17;
        static final int AND = -18;
        static final int OR = -19;
        static final int NOT = -20;
        static final int IF = -21;
        static final int DONE = -22;

        private static final int BOUND = 1000000;
        private static final char[] LETTER_SIGNS = {'b', 'a', 'r', 'p', 'n', 't'};

        private final int[] code;

        Law(int[] code) {
            this.code = code;
        }

        static int letterOf(int sign) {
            for (int i = 0; i < LETTERS; i++) {
                if (LETTER_SIGNS[i] == sign) {
                    return i;
                }
            }
            return NONE;
        }

        int worth(int[] letters, int[] stack) {
            int top = 0;
            boolean passing = false;
            for (int i = 0; i < code.length; i++) {
                int op = code[i];
                if (passing) {
                    passing = op != DONE;
                } else if (op > FIRST_LETTER - LETTERS) {
                    if (top >= stack.length) {
                        return 0;
                    }
                    stack[top] = op >= 0 ? op : letters[FIRST_LETTER - op];
                    top++;
                } else if (top < 1) {
                    return 0;
                } else if (op == DONE) {
                    return stack[top - 1];
                } else if (op == IF) {
                    top--;
                    passing = stack[top] == 0;
                } else if (op == NOT) {
                    stack[top - 1] = 1 - stack[top - 1];
                } else if (top < 2) {
                    return 0;
                } else {
                    top--;
                    stack[top - 1] = joined(op, stack[top - 1], stack[top]);
                }
            }
            return 0;
        }

        private static int joined(int op, int one, int other) {
            long number;
            switch (op) {
                case PLUS:
                    number = (long) one + other;
                    break;
                case MINUS:
                    number = (long) one - other;
                    break;
                case TIMES:
                    number = (long) one * other;
                    break;
                case BY:
                    number = other == 0 ? 0 : one / other;
                    break;
                case EQUAL:
                    number = one == other ? 1 : 0;
                    break;
                case LESS:
                    number = one < other ? 1 : 0;
                    break;
                case MORE:
                    number = one > other ? 1 : 0;
                    break;
                case AND:
                    number = one & other;
                    break;
                default:
                    number = one | other;
                    break;
            }
            if (number > BOUND) {
                return BOUND;
            }
            return number < -BOUND ? -BOUND : (int) number;
        }
    }

    /** The steps of an evening, of each what it is and its digits. */
    private static final class Evening {
        static final int MOST_STEPS = 16;
        static final int PARTS = 3;
        static final int HOUR = 0;
        static final int BEGIN = 1;
        static final int TIDE = 2;
        static final int SWEEP = 3;

        final int size;
        private final int[] parts;

        Evening(int[] parts, int size) {
            this.parts = parts;
            this.size = size;
        }

        int part(int i, int what) {
            return parts[i * PARTS + what];
        }

        boolean isHour(int i) {
            return part(i, 0) == HOUR;
        }

        boolean mayBe(int i, Scene scene) {
            switch (part(i, 0)) {
                case HOUR:
                    return scene.mayPassHour();
                case BEGIN:
                    return scene.mayBegin(part(i, 1), part(i, 2));
                case TIDE:
                    return scene.mayTurnTide(part(i, 1));
                default:
                    return scene.maySweep(part(i, 1));
            }
        }

        /** Does a step that is no hour. */
        void doByHand(int i, Scene scene) {
            switch (part(i, 0)) {
                case BEGIN:
                    scene.payAndBegin(part(i, 1), part(i, 2));
                    break;
                case TIDE:
                    scene.v[Scene.TIDE] = part(i, 1);
                    break;
                case SWEEP:
                    scene.sweepOff(part(i, 1));
                    break;
                default:
                    break;
            }
        }
    }

    /**
     * The shore at one moment. All its numbers stand in one row, those that change ahead of those
     * that never do, so that a moment is kept and brought back by one copy.
     */
    private static final class Scene {
        static final int SAND = 0;
        static final int ROCK = 1;
        static final int WATER = 2;
        static final int HOTEL = 3;

        static final int GOES = 0;
        static final int IN = 1;
        static final int GONE = 2;

        static final int OPEN = 0;
        static final int CLOSED = 1;
        static final int DROWNED = 2;
        static final int HOUSED = 3;

        static final int LAST_HOUR = 9999;
        static final int MOST_CELLS = 30;

        static final int KIND = 0;
        static final int CELL = 30;
        static final int LOOK = 34;
        static final int WENT = 38;
        static final int FATE = 42;
        static final int TIDE = 46;
        static final int MEETINGS = 47;
        static final int COINS = 48;
        static final int HOUR = 49;
        static final int CHANGING = 50;
        static final int PACE = 50;
        static final int START = 54;
        static final int WIDE = 58;
        static final int ROWS = 59;
        static final int GOERS = 60;
        static final int SIZE = 61;

        private static final int HIGHEST_TIDE = 5;
        private static final int STONE_PRICE = 2;
        private static final int SWEEP_PRICE = 1;
        private static final int BEGIN_PRICE = 3;
        private static final int MOST_GIVEN = 50;
        private static final int MOST_COINS = 999;

        final int[] v = new int[SIZE];

        static boolean isLook(int look) {
            return look >= 0 && look < 4;
        }

        void copy(Scene other) {
            System.arraycopy(other.v, 0, v, 0, SIZE);
        }

        boolean hasShore() {
            return v[GOERS] > 0;
        }

        int cells() {
            return v[WIDE] * v[ROWS];
        }

        boolean hasCell(int cell) {
            return cell >= 0 && cell < cells();
        }

        boolean hasGoer(int goer) {
            return goer >= 0 && goer < v[GOERS];
        }

        boolean hasPair(int one, int other) {
            return hasGoer(one) && hasGoer(other) && one != other;
        }

        boolean hasGoingPair(int one, int other) {
            return hasPair(one, other) && goes(one) && goes(other);
        }

        boolean goes(int goer) {
            return v[FATE + goer] == GOES;
        }

        boolean goesOn(int goer, int cell) {
            return v[FATE + goer] == GOES && v[CELL + goer] == cell;
        }

        boolean together(int one, int other) {
            return goes(one) && goesOn(other, v[CELL + one]);
        }

        int kind(int cell) {
            return v[KIND + cell];
        }

        boolean under(int cell) {
            return v[KIND + cell] == WATER || cell >= (v[ROWS] - v[TIDE]) * v[WIDE];
        }

        /** The next cell that way; NONE: it is out of the shore. */
        int beside(int cell, int look) {
            int wide = v[WIDE];
            switch (look) {
                case 0:
                    return cell >= wide ? cell - wide : NONE;
                case 1:
                    return wide > 0 && (cell + 1) % wide != 0 ? cell + 1 : NONE;
                case 2:
                    return cell + wide < wide * v[ROWS] ? cell + wide : NONE;
                default:
                    return wide > 0 && cell % wide != 0 ? cell - 1 : NONE;
            }
        }

        int lies(int cell) {
            if (cell == NONE || v[KIND + cell] == ROCK) {
                return CLOSED;
            }
            if (under(cell)) {
                return DROWNED;
            }
            return v[KIND + cell] == HOTEL ? HOUSED : OPEN;
        }

        int goingOn(int cell) {
            int going = 0;
            for (int goer = 0; goer < v[GOERS]; goer++) {
                if (goesOn(goer, cell)) {
                    going++;
                }
            }
            return going;
        }

        boolean mayPassHour() {
            return hasShore() && v[HOUR] < LAST_HOUR;
        }

        boolean mayTurnTide(int tide) {
            return hasShore() && tide >= 0 && tide <= HIGHEST_TIDE && tide != v[TIDE];
        }

        boolean mayTurnStone(int cell) {
            return hasCell(cell) && kind(cell) <= ROCK && goingOn(cell) == 0 && v[COINS] >= STONE_PRICE;
        }

        void turnStone(int cell) {
            v[COINS] -= STONE_PRICE;
            v[KIND + cell] = kind(cell) == SAND ? ROCK : SAND;
        }

        boolean maySweep(int cell) {
            return hasCell(cell) && goingOn(cell) > 0 && v[COINS] >= SWEEP_PRICE;
        }

        int sweepOff(int cell) {
            int swept = 0;
            for (int goer = 0; goer < v[GOERS]; goer++) {
                if (goesOn(goer, cell)) {
                    v[FATE + goer] = GONE;
                    swept++;
                }
            }
            v[COINS] -= SWEEP_PRICE;
            return swept;
        }

        boolean mayBegin(int goer, int look) {
            return hasGoer(goer) && isLook(look) && kind(v[START + goer]) != ROCK && v[COINS] >= BEGIN_PRICE;
        }

        void payAndBegin(int goer, int look) {
            v[COINS] -= BEGIN_PRICE;
            begin(goer, look);
        }

        void begin(int goer, int look) {
            v[CELL + goer] = v[START + goer];
            v[LOOK + goer] = look;
            v[WENT + goer] = 0;
            v[FATE + goer] = GOES;
        }

        boolean mayBeGiven(int coins) {
            return hasShore() && coins >= 1 && coins <= MOST_GIVEN && v[COINS] + coins <= MOST_COINS;
        }

        int wentInAll() {
            int sum = 0;
            for (int goer = 0; goer < v[GOERS]; goer++) {
                sum += v[WENT + goer];
            }
            return sum;
        }

        int goerWithMost(int row) {
            int best = 0;
            for (int goer = 1; goer < v[GOERS]; goer++) {
                if (v[row + goer] > v[row + best]) {
                    best = goer;
                }
            }
            return best;
        }

        int goersWith(int fate) {
            int bits = 0;
            for (int goer = 0; goer < v[GOERS]; goer++) {
                if (v[FATE + goer] == fate) {
                    bits |= 1 << goer;
                }
            }
            return bits;
        }

        int busyCells() {
            int bits = 0;
            for (int goer = 0; goer < v[GOERS]; goer++) {
                if (goes(goer)) {
                    bits |= 1 << v[CELL + goer];
                }
            }
            return bits;
        }

        int crowd() {
            int most = 0;
            for (int goer = 0; goer < v[GOERS]; goer++) {
                if (goes(goer)) {
                    most = Math.max(most, goingOn(v[CELL + goer]));
                }
            }
            return most;
        }

        int faced() {
            int pairs = 0;
            for (int one = 0; one < v[GOERS]; one++) {
                for (int other = one + 1; other < v[GOERS]; other++) {
                    if (goes(one) && goes(other) && looksAt(one, other) && looksAt(other, one)) {
                        pairs++;
                    }
                }
            }
            return pairs;
        }

        private boolean looksAt(int one, int other) {
            return beside(v[CELL + one], v[LOOK + one]) == v[CELL + other];
        }

        int dryCells() {
            int bits = 0;
            for (int cell = 0; cell < cells(); cell++) {
                if (kind(cell) != ROCK && !under(cell)) {
                    bits |= 1 << cell;
                }
            }
            return bits;
        }

        int dryParts() {
            int left = dryCells();
            int parts = 0;
            for (int cell = 0; cell < cells(); cell++) {
                if ((left >> cell & 1) != 0) {
                    left &= ~reached(1 << cell, left);
                    parts++;
                }
            }
            return parts;
        }

        private int reached(int from, int dry) {
            int bits = from;
            for (int i = 0; i < MOST_CELLS; i++) {
                bits = widened(bits, dry);
            }
            return bits;
        }

        int fewestSteps(int from, int to) {
            int dry = dryCells();
            if ((dry >> from & 1) == 0) {
                return NONE;
            }
            int bits = 1 << from;
            for (int steps = 0; steps < MOST_CELLS; steps++) {
                if ((bits >> to & 1) != 0) {
                    return steps;
                }
                bits = widened(bits, dry);
            }
            return NONE;
        }

        /** These cells and those dry ones beside them. */
        private int widened(int bits, int dry) {
            int wider = bits;
            for (int cell = 0; cell < cells(); cell++) {
                for (int look = 0; look < 4 && (bits >> cell & 1) != 0; look++) {
                    int next = beside(cell, look);
                    if (next != NONE) {
                        wider |= 1 << next & dry;
                    }
                }
            }
            return wider;
        }
    }

    /** Lets hours pass on a scene by the law that holds. */
    private static final class Walker {
        private static final int MOST_MEETINGS = 9999;

        Law law;
        int ended;
        int looked;
        private final int[] letters = new int[Law.LETTERS];
        private final int[] stack = new int[Tape.MOST];

        /** Tells how many meetings there were; which prints ended is in ended. */
        int passHour(Scene scene) {
            ended = 0;
            for (int goer = 0; goer < scene.v[Scene.GOERS]; goer++) {
                if (!scene.goes(goer)) {
                    continue;
                }
                if (scene.under(scene.v[Scene.CELL + goer])) {
                    scene.v[Scene.FATE + goer] = Scene.GONE;
                }
                for (int i = 0; i < scene.v[Scene.PACE + goer] && scene.goes(goer); i++) {
                    takeStep(scene, goer);
                }
                if (!scene.goes(goer)) {
                    ended |= 1 << goer;
                }
            }
            int met = turnThoseMet(scene);
            scene.v[Scene.MEETINGS] = Math.min(MOST_MEETINGS, scene.v[Scene.MEETINGS] + met);
            scene.v[Scene.HOUR]++;
            return met;
        }

        private int turnThoseMet(Scene scene) {
            int pairs = 0;
            for (int goer = 0; goer < scene.v[Scene.GOERS]; goer++) {
                if (scene.goes(goer)) {
                    int others = scene.goingOn(scene.v[Scene.CELL + goer]) - 1;
                    pairs += others;
                    scene.v[Scene.LOOK + goer] = scene.v[Scene.LOOK + goer] + (others > 0 ? 2 : 0) & 3;
                }
            }
            return pairs / 2;
        }

        void takeStep(Scene scene, int goer) {
            int look = scene.v[Scene.LOOK + goer];
            int right = look + 1 & 3;
            int ahead = liesAhead(scene, goer, look);
            if (law != null) {
                look = lawfulLook(scene, goer, ahead, liesAhead(scene, goer, right));
            } else if (ahead == Scene.CLOSED) {
                look = right;
            }
            scene.v[Scene.LOOK + goer] = look;
            int lies = liesAhead(scene, goer, look);
            if (lies == Scene.CLOSED) {
                return;
            }
            scene.v[Scene.CELL + goer] = scene.beside(scene.v[Scene.CELL + goer], look);
            scene.v[Scene.WENT + goer]++;
            if (lies == Scene.DROWNED) {
                scene.v[Scene.FATE + goer] = Scene.GONE;
            } else if (lies == Scene.HOUSED) {
                scene.v[Scene.FATE + goer] = Scene.IN;
            }
        }

        private int lawfulLook(Scene scene, int goer, int ahead, int right) {
            int look = scene.v[Scene.LOOK + goer];
            letters[0] = look;
            letters[1] = ahead;
            letters[2] = right;
            letters[3] = scene.v[Scene.PACE + goer];
            letters[4] = scene.v[Scene.WENT + goer] % 100;
            letters[5] = scene.v[Scene.HOUR] % 24;
            return law == null ? look : Math.floorMod(law.worth(letters, stack), 4);
        }

        /** Marks the cell as looked at: a rock elsewhere could not have changed this step. */
        private int liesAhead(Scene scene, int goer, int look) {
            int cell = scene.beside(scene.v[Scene.CELL + goer], look);
            if (cell == NONE) {
                return Scene.CLOSED;
            }
            looked |= 1 << cell;
            return scene.lies(cell);
        }
    }

    /** The log, the acts that can be undone and the image. */
    private static final class Past {
        private static final int MOST_ACTS = 40;
        private static final int LOG_SHOWN = 60;
        /** Behind as many hours undone as can be, the log is still whole. */
        private static final int LOG_KEPT = LOG_SHOWN + MOST_ACTS;

        int acts;
        private final int[] kept = new int[MOST_ACTS * Scene.CHANGING];
        private final int[] notes = new int[LOG_KEPT];
        private final int[] imageKept = new int[Scene.CHANGING];
        private final int[] imageNotes = new int[LOG_KEPT];
        private boolean hasImage;
        private int slot;

        void forget() {
            acts = 0;
            hasImage = false;
        }

        void keep(Scene scene) {
            System.arraycopy(scene.v, 0, kept, slot * Scene.CHANGING, Scene.CHANGING);
            slot = (slot + 1) % MOST_ACTS;
            acts = Math.min(MOST_ACTS, acts + 1);
        }

        boolean takeBack(Scene scene) {
            if (acts < 1) {
                return false;
            }
            acts--;
            slot = (slot + MOST_ACTS - 1) % MOST_ACTS;
            System.arraycopy(kept, slot * Scene.CHANGING, scene.v, 0, Scene.CHANGING);
            return true;
        }

        /** Each hour has one note, so the hour tells how many there are. */
        static int logLength(Scene scene) {
            return Math.min(LOG_SHOWN, scene.v[Scene.HOUR]);
        }

        void note(int hourBehind, int met, int ended, int tide) {
            notes[Math.floorMod(hourBehind - 1, LOG_KEPT)] = met << 8 | ended << 4 | tide;
        }

        int noted(int hour, int what) {
            int note = notes[Math.floorMod(hour, LOG_KEPT)];
            switch (what) {
                case 0:
                    return note >> 8;
                case 1:
                    return note >> 4 & 15;
                default:
                    return note & 15;
            }
        }

        void keepImage(Scene scene) {
            System.arraycopy(scene.v, 0, imageKept, 0, Scene.CHANGING);
            System.arraycopy(notes, 0, imageNotes, 0, LOG_KEPT);
            hasImage = true;
        }

        boolean bringBack(Scene scene) {
            if (!hasImage) {
                return false;
            }
            System.arraycopy(imageKept, 0, scene.v, 0, Scene.CHANGING);
            System.arraycopy(imageNotes, 0, notes, 0, LOG_KEPT);
            acts = 0;
            return true;
        }
    }

    /** What will be, played on the spare scene from as it is now. */
    private static final class Foresight {
        private static final int GAME_HOURS = 6;
        private static final int MEETING_COSTS = 3;
        private static final int LOOKS = 4;
        private static final int WHOLE = 1000000000;
        private static final int ALL_CELLS = -1;

        int firstHas;
        int secondHas;
        private final Scene now;
        private final Scene spare;
        private final Walker walker;
        private int lookedAnyway;
        private final int[] lookedBy = new int[Scene.MOST_CELLS];
        private final int[] firstGains = new int[LOOKS * LOOKS];
        private final int[] secondGains = new int[LOOKS * LOOKS];

        Foresight(Scene now, Scene spare, Walker walker) {
            this.now = now;
            this.spare = spare;
            this.walker = walker;
        }

        int cellBehind(int goer, int hours) {
            spare.copy(now);
            for (int i = 0; i < hours; i++) {
                walker.passHour(spare);
            }
            return spare.v[Scene.CELL + goer];
        }

        int firstMeeting(int one, int other) {
            spare.copy(now);
            for (int hours = 1; hours <= FAR_HOURS; hours++) {
                walker.passHour(spare);
                if (spare.together(one, other)) {
                    return hours;
                }
            }
            return NONE;
        }

        int endOf(int goer, int what) {
            spare.copy(now);
            for (int hours = 0; hours <= FAR_HOURS; hours++) {
                if (!spare.goes(goer)) {
                    return what == 0 ? hours : spare.v[Scene.FATE + goer];
                }
                walker.passHour(spare);
            }
            return NONE;
        }

        int sameAgain(int goer) {
            spare.copy(now);
            for (int hours = 1; hours <= FAR_HOURS; hours++) {
                walker.passHour(spare);
                if (spare.goesOn(goer, now.v[Scene.CELL + goer])
                        && spare.v[Scene.LOOK + goer] == now.v[Scene.LOOK + goer]) {
                    return hours;
                }
            }
            return NONE;
        }

        boolean apartAnyway(int one, int other, int hours) {
            boolean apart = keepsApart(one, other, hours, NONE, NONE);
            lookedAnyway = walker.looked;
            return apart;
        }

        /**
         * Asked when the two are not apart anyway. A rock where nobody looks leaves all as it is,
         * so only cells that were looked at are tried.
         */
        int oneStone(int one, int other, int hours) {
            for (int cell = 0; cell < now.cells(); cell++) {
                lookedBy[cell] = ALL_CELLS;
                if ((lookedAnyway >> cell & 1) != 0 && isFree(cell)) {
                    if (keepsApart(one, other, hours, cell, NONE)) {
                        return cell;
                    }
                    lookedBy[cell] = walker.looked;
                }
            }
            return NONE;
        }

        /** Asked when no single stone does: it needs what oneStone found out. */
        int twoStones(int one, int other, int hours) {
            for (int low = 0; low < now.cells(); low++) {
                for (int high = low + 1; high < now.cells(); high++) {
                    boolean matters = (lookedAnyway >> low & 1 | lookedAnyway >> high & 1) != 0
                            && (lookedBy[low] >> high & 1) != 0 && (lookedBy[high] >> low & 1) != 0;
                    if (matters && isFree(low) && isFree(high) && keepsApart(one, other, hours, low, high)) {
                        return low * 100 + high;
                    }
                }
            }
            return NONE;
        }

        private boolean isFree(int cell) {
            return now.kind(cell) == Scene.SAND && now.goingOn(cell) == 0;
        }

        private boolean keepsApart(int one, int other, int hours, int stone, int another) {
            spare.copy(now);
            layRock(stone);
            layRock(another);
            walker.looked = 0;
            for (int i = 0; i < hours; i++) {
                walker.passHour(spare);
                if (spare.together(one, other)) {
                    return false;
                }
            }
            return true;
        }

        private void layRock(int cell) {
            if (cell != NONE) {
                spare.v[Scene.KIND + cell] = Scene.ROCK;
            }
        }

        /** Leaves what each of the two has in firstHas and secondHas. */
        void play(int one, int other, int x, int y) {
            spare.copy(now);
            spare.v[Scene.LOOK + one] = x;
            spare.v[Scene.LOOK + other] = y;
            int firstCells = 0;
            int secondCells = 0;
            int less = 0;
            for (int i = 0; i < GAME_HOURS; i++) {
                walker.passHour(spare);
                firstCells |= 1 << spare.v[Scene.CELL + one];
                secondCells |= 1 << spare.v[Scene.CELL + other];
                if (spare.together(one, other)) {
                    less = MEETING_COSTS;
                }
            }
            firstHas = Integer.bitCount(firstCells & ~(1 << now.v[Scene.CELL + one])) - less;
            secondHas = Integer.bitCount(secondCells & ~(1 << now.v[Scene.CELL + other])) - less;
        }

        /** Bit 4 x + y is set where x, y is a rest. */
        int restsOf(int one, int other) {
            for (int i = 0; i < LOOKS * LOOKS; i++) {
                play(one, other, i / LOOKS, i % LOOKS);
                firstGains[i] = firstHas;
                secondGains[i] = secondHas;
            }
            int resting = 0;
            for (int i = 0; i < LOOKS * LOOKS; i++) {
                if (isRest(i / LOOKS, i % LOOKS)) {
                    resting |= 1 << i;
                }
            }
            return resting;
        }

        private boolean isRest(int x, int y) {
            for (int look = 0; look < LOOKS; look++) {
                if (firstGains[look * LOOKS + y] > firstGains[x * LOOKS + y]
                        || secondGains[x * LOOKS + look] > secondGains[x * LOOKS + y]) {
                    return false;
                }
            }
            return true;
        }

        int rest(int resting, int i) {
            int place = nthBit(resting, i);
            return place == NONE ? NONE : place / LOOKS * 10 + place % LOOKS;
        }

        /** Each bit of turns tells whether the wind turns the prints ahead of that hour. */
        int partsOn(int goer, int cell, int hours, int chance) {
            int sum = 0;
            for (int turns = 0; turns < 1 << hours; turns++) {
                int parts = partsOf(turns, goer, hours, chance);
                if (spare.v[Scene.CELL + goer] == cell) {
                    sum += parts;
                }
            }
            return sum;
        }

        private int partsOf(int turns, int goer, int hours, int chance) {
            spare.copy(now);
            int parts = WHOLE;
            for (int i = 0; i < hours && parts > 0; i++) {
                int turned = spare.goes(goer) ? (int) ((long) parts * chance / 100) : 0;
                if ((turns >> i & 1) != 0) {
                    parts = turned;
                    spare.v[Scene.LOOK + goer] = spare.v[Scene.LOOK + goer] + 1 & 3;
                } else {
                    parts -= turned;
                }
                walker.passHour(spare);
            }
            return parts;
        }

        static int nthBit(int bits, int n) {
            int left = n;
            for (int place = 0; place < LOOKS * LOOKS && left >= 0; place++) {
                if ((bits >> place & 1) != 0) {
                    if (left == 0) {
                        return place;
                    }
                    left--;
                }
            }
            return NONE;
        }
    }

    /** Where prints were seen, and which looks and paces fit that. */
    private static final class Sightings {
        static final int LAST = 30;

        private static final int MOST = 10;
        private static final int LOOKS = 4;
        private static final int GUESSES = 16;
        private static final int HOURS = LAST + 1;

        int size;
        private final Scene told;
        private final Scene spare;
        private final Walker walker;
        private final int[] goers = new int[MOST];
        private final int[] hours = new int[MOST];
        private final int[] cells = new int[MOST];
        private final int[] traces = new int[GUESSES * HOURS];
        private final int[] tellers = new int[Scene.MOST_CELLS];

        Sightings(Scene told, Scene spare, Walker walker) {
            this.told = told;
            this.spare = spare;
            this.walker = walker;
        }

        void forget() {
            size = 0;
        }

        boolean add(int goer, int hour, int cell) {
            if (size >= MOST) {
                return false;
            }
            goers[size] = goer;
            hours[size] = hour;
            cells[size] = cell;
            size++;
            return true;
        }

        /** Bit 4 (pace - 1) + look is set where these fit; the traces of all are left behind. */
        int fitting(int goer) {
            int bits = 0;
            for (int guess = 0; guess < GUESSES; guess++) {
                trace(goer, guess);
                if (agrees(goer, guess)) {
                    bits |= 1 << guess;
                }
            }
            return bits;
        }

        private void trace(int goer, int guess) {
            spare.copy(told);
            for (int other = 0; other < spare.v[Scene.GOERS]; other++) {
                spare.v[Scene.FATE + other] = other == goer ? Scene.GOES : Scene.GONE;
            }
            spare.v[Scene.LOOK + goer] = guess % LOOKS;
            spare.v[Scene.PACE + goer] = guess / LOOKS + 1;
            for (int hour = 0; hour < HOURS; hour++) {
                traces[guess * HOURS + hour] = spare.v[Scene.CELL + goer];
                walker.passHour(spare);
            }
        }

        private boolean agrees(int goer, int guess) {
            for (int i = 0; i < size; i++) {
                if (goers[i] == goer && traces[guess * HOURS + hours[i]] != cells[i]) {
                    return false;
                }
            }
            return true;
        }

        int fit(int fitting, int i) {
            int guess = Foresight.nthBit(fitting, i);
            return guess == NONE ? NONE : (guess / LOOKS + 1) * 10 + guess % LOOKS;
        }

        int bestHour(int fitting) {
            int best = NONE;
            int fewest = GUESSES + 1;
            for (int hour = 1; fitting != 0 && hour <= LAST; hour++) {
                int most = mostAlike(fitting, hour);
                if (most < fewest) {
                    fewest = most;
                    best = hour;
                }
            }
            return best;
        }

        private int mostAlike(int fitting, int hour) {
            Arrays.fill(tellers, 0);
            int most = 0;
            for (int guess = 0; guess < GUESSES; guess++) {
                if ((fitting >> guess & 1) != 0) {
                    int cell = traces[guess * HOURS + hour];
                    tellers[cell]++;
                    most = Math.max(most, tellers[cell]);
                }
            }
            return most;
        }
    }
}
