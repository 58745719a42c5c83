import java.util.Random;
import java.util.regex.Matcher;
import java.util.regex.Pattern;

/** Faults of texts, held against the grammars of the document (promises 2 to 5). */
public final class FaultTest {
    private static final int LAW = 1;
    private static final int EVENING = 2;
    private static final int DEEPEST = 6;
    private static final Pattern SHORE_SIGN = Pattern.compile("([srg])|([a-z]) *(\\d+)");

    private static final Checks CHECKS = new Checks("FaultTest");

    public static void main(String[] args) {
        shoresByHand();
        lawsByHand();
        eveningsByHand();
        many(LAW, lawGrammar(), "yyy:::???;;;()[]!!&|=<>+-*/bbarpnt0123456789   x", 6000, 11);
        many(EVENING, eveningGrammar(), "hhhgtsss;;;;;0123456789   x", 6000, 12);
        manyShores();
        CHECKS.end();
    }

    private static void fault(int sort, String text, int want) {
        PrintsGoOn prints = new PrintsGoOn();
        CHECKS.due("fault(" + sort + ") of '" + text + "'", Checks.faultOf(prints, sort, text), want);
    }

    private static void shoresByHand() {
        fault(0, "", 0);
        fault(0, "   ", 3);
        fault(0, "g", -1);
        fault(0, "g;", 2);
        fault(0, "g; ", 3);
        fault(0, "g;;g", 2);
        fault(0, ";g", 0);
        fault(0, "gg", 1);
        fault(0, "gx", 2);
        fault(0, "gxx1", 2);
        fault(0, "gx 4", -1);
        fault(0, "gx5", 3);
        fault(0, "gx5;sw6", -1);
        fault(0, "gx5;s", 5);
        fault(0, "gy4;sh5", -1);
        fault(0, "gy3", -1);
        fault(0, "gx04y03b03p04", -1);
        fault(0, "gx12", 3);
        fault(0, "gx123", 4);
        fault(0, "gx006", 4);
        fault(0, "gx1 2", 4);
        fault(0, "gx9 2", 2);
        fault(0, "gx12;;", 3);
        fault(0, "gp00", 3);
        fault(0, "gp1p1", 3);
        fault(0, "sw02;gx1", -1);
        fault(0, "sw02;gx2", 8);
        fault(0, "sw10;g", 3);
        fault(0, "sw100;g", 4);
        fault(0, "sc99;g", -1);
        fault(0, "st5h2;g", -1);
        fault(0, "sh1;g", 2);
        fault(0, "sh2;r;r;r;g", 11);
        fault(0, "sh3;r;r;r;g", -1);
        fault(0, "sw3;r0000;g", 11);
        fault(0, "r0 1 2 3;g", -1);
        fault(0, "r1234", 4);
        fault(0, "r3333339", 7);
        fault(0, "sw6;r333333;g", -1);
        fault(0, "r;s;g;s", 6);
        fault(0, "r;r;r;r;r;r", 10);
        fault(0, "sh6;g", 2);
        fault(0, "st6;g", 2);
        fault(0, "sc100;g", 4);
        fault(0, "g;g;g;g", -1);
        fault(0, "g;g;g;g;r;g", 10);
        fault(0, "s;r;r;r;r;r;g;g;g;g;g", 20);
        fault(0, "G", 0);
        fault(0, "g\t", 1);
        fault(0, "g\u00e7", 1);
        fault(0, "gw1", 1);
        fault(0, "sx1;g", 1);
    }

    private static void lawsByHand() {
        fault(LAW, "", 0);
        fault(LAW, "y", 1);
        fault(LAW, "y:", 2);
        fault(LAW, "y:1", -1);
        fault(LAW, "y:1;", 4);
        fault(LAW, "y:1;y", 5);
        fault(LAW, " y : 1 ; y : 2 ", -1);
        fault(LAW, "y:1 2", 4);
        fault(LAW, "y:9999", -1);
        fault(LAW, "y:00001", 6);
        fault(LAW, "y:-1", 2);
        fault(LAW, "y:b?1", 3);
        fault(LAW, "y:b=1?2", -1);
        fault(LAW, "y:b=1", 5);
        fault(LAW, "y:b=1;", 5);
        fault(LAW, "y:b=1=2?3", 5);
        fault(LAW, "y:b<1&r>2|!p=1?n*t/[b+a]-2", -1);
        fault(LAW, "y:(b)=1?1", 4);
        fault(LAW, "y:(b=1)?1", -1);
        fault(LAW, "y:(b=1)", 7);
        fault(LAW, "y:(b=1]?1", 6);
        fault(LAW, "y:[b=1]?1", 4);
        fault(LAW, "y:[[[[[[b]]]]]]", -1);
        fault(LAW, "y:[[[[[[[b]]]]]]]", 8);
        fault(LAW, "y:!!!!!!b=1?1", -1);
        fault(LAW, "y:!(!(!([b]=1)))?1", 8);
        fault(LAW, "y:!(!(!(b=1)))?1", -1);
        fault(LAW, "y:((b=1)&(((((b=1))))))?1", -1);
        fault(LAW, "y:((b=1)&((((((b=1)))))))?1", 14);
        fault(LAW, "y:(b=1)+1?1", 7);
        fault(LAW, "y:b=1&1?1", 7);
        fault(LAW, "y:1;y:b=1?2;y:!b=1?3", -1);
        fault(LAW, "x:1", 0);
        fault(LAW, "y 1", 2);
    }

    private static void eveningsByHand() {
        fault(EVENING, "", 0);
        fault(EVENING, "h;h", -1);
        fault(EVENING, "h;", 2);
        fault(EVENING, "hh", 1);
        fault(EVENING, "g", 1);
        fault(EVENING, "g9", 2);
        fault(EVENING, "g99", -1);
        fault(EVENING, "g999", 3);
        fault(EVENING, "g 9 9 9", 6);
        fault(EVENING, "t12", 2);
        fault(EVENING, "s99;t9;g00;h", -1);
        fault(EVENING, "s999", 3);
        fault(EVENING, "sx", 1);
        fault(EVENING, "h;".repeat(15) + "h", -1);
        fault(EVENING, "h;".repeat(15) + "h ;", 32);
        fault(EVENING, "h;".repeat(15) + "h1", 31);
        fault(EVENING, "y:1", 0);
        PrintsGoOn prints = new PrintsGoOn();
        Checks.type(prints, "h");
        CHECKS.due("fault(-1)", prints.fault(-1), -2);
        CHECKS.due("fault(3)", prints.fault(3), -2);
    }

    /** The grammar of laws, with how deep within ( [ ! each part stands in its name. */
    private static Earley lawGrammar() {
        Earley grammar = new Earley("TEXT");
        grammar.blanks();
        grammar.rule("TEXT", "LAW", "BLANKS LAW");
        grammar.rule("LAW", "CLAUSE", "CLAUSE ; LAW");
        grammar.rule("CLAUSE", "y : SUM0", "y : CONDITION0 ? SUM0");
        for (String sign : new String[] {"y", ":", ";", "?", "!", "(", ")", "[", "]", "|", "&"}) {
            grammar.token(sign, sign);
        }
        grammar.token("COMPARE", "=<>");
        grammar.token("ADD", "+-");
        grammar.token("TIMES", "*/");
        grammar.token("LETTER", "barpnt");
        for (char digit = '0'; digit <= '9'; digit++) {
            grammar.rule("DIGIT", "'" + digit);
        }
        grammar.rule("DIGITS", "DIGIT", "DIGIT DIGIT", "DIGIT DIGIT DIGIT", "DIGIT DIGIT DIGIT DIGIT");
        grammar.rule("NUMBER", "DIGITS", "DIGITS BLANKS");
        for (int d = 0; d <= DEEPEST; d++) {
            grammar.rule("CONDITION" + d, "TRUTH" + d, "TRUTH" + d + " | CONDITION" + d);
            grammar.rule("TRUTH" + d, "UNIT" + d, "UNIT" + d + " & TRUTH" + d);
            grammar.rule("UNIT" + d, "SUM" + d + " COMPARE SUM" + d);
            grammar.rule("SUM" + d, "TERM" + d, "TERM" + d + " ADD SUM" + d);
            grammar.rule("TERM" + d, "ATOM" + d, "ATOM" + d + " TIMES TERM" + d);
            grammar.rule("ATOM" + d, "NUMBER", "LETTER");
            if (d < DEEPEST) {
                grammar.rule("UNIT" + d, "! UNIT" + (d + 1), "( CONDITION" + (d + 1) + " )");
                grammar.rule("ATOM" + d, "[ SUM" + (d + 1) + " ]");
            }
        }
        return grammar;
    }

    private static Earley eveningGrammar() {
        Earley grammar = new Earley("TEXT");
        grammar.blanks();
        grammar.rule("TEXT", "EVENING1", "BLANKS EVENING1");
        for (String sign : new String[] {"h", "g", "t", "s", ";"}) {
            grammar.token(sign, sign);
        }
        grammar.token("DIGIT", "0123456789");
        grammar.rule("STEP", "h", "g DIGIT DIGIT", "t DIGIT", "s DIGIT DIGIT");
        for (int i = 1; i <= 16; i++) {
            grammar.rule("EVENING" + i, "STEP");
            if (i < 16) {
                grammar.rule("EVENING" + i, "STEP ; EVENING" + (i + 1));
            }
        }
        return grammar;
    }

    /** Clauses of a shore, without what the numbers and the whole text must keep to. */
    private static Earley shoreGrammar() {
        Earley grammar = new Earley("TEXT");
        grammar.blanks();
        grammar.rule("TEXT", "SHORE", "BLANKS SHORE");
        grammar.rule("SHORE", "CLAUSE", "CLAUSE ; SHORE");
        for (String sign : new String[] {"s", "r", "g", ";"}) {
            grammar.token(sign, sign);
        }
        grammar.token("KIND", "0123");
        grammar.token("RULE", "whtc");
        grammar.token("GOES", "xybp");
        for (char digit = '0'; digit <= '9'; digit++) {
            grammar.rule("DIGIT", "'" + digit);
        }
        grammar.rule("DIGITS", "DIGIT", "DIGIT DIGIT");
        grammar.rule("NUMBER", "DIGITS", "DIGITS BLANKS");
        grammar.rule("CLAUSE", "s", "s RULES", "g", "g GOINGS", "r", "r KINDS1");
        grammar.rule("RULES", "RULE NUMBER", "RULE NUMBER RULES");
        grammar.rule("GOINGS", "GOES NUMBER", "GOES NUMBER GOINGS");
        for (int i = 1; i <= 6; i++) {
            grammar.rule("KINDS" + i, "KIND");
            if (i < 6) {
                grammar.rule("KINDS" + i, "KIND KINDS" + (i + 1));
            }
        }
        return grammar;
    }

    private static void many(int sort, Earley grammar, String signs, int times, long seed) {
        Random random = new Random(seed);
        Texts texts = new Texts(random);
        for (int i = 0; i < times; i++) {
            String text = sort == LAW ? texts.law().text() : texts.evening();
            text = i % 3 == 0 ? text : spoilt(random, text, signs);
            fault(sort, text, grammar.fault(text));
        }
    }

    /** A text with one or two signs left out, put in or changed, or cut short. */
    private static String spoilt(Random random, String text, String signs) {
        StringBuilder spoilt = new StringBuilder(text);
        for (int i = 0; i <= random.nextInt(2); i++) {
            int at = random.nextInt(spoilt.length() + 1);
            char sign = signs.charAt(random.nextInt(signs.length()));
            switch (random.nextInt(4)) {
                case 0:
                    spoilt.insert(at, sign);
                    break;
                case 1:
                    spoilt.setLength(at);
                    break;
                case 2:
                    if (at < spoilt.length()) {
                        spoilt.setCharAt(at, sign);
                    }
                    break;
                default:
                    if (at < spoilt.length()) {
                        spoilt.deleteCharAt(at);
                    }
                    break;
            }
        }
        return spoilt.length() > 240 ? spoilt.substring(0, 240) : spoilt.toString();
    }

    private static void manyShores() {
        Random random = new Random(13);
        Texts texts = new Texts(random);
        Earley grammar = shoreGrammar();
        for (int i = 0; i < 6000; i++) {
            String text = texts.shore();
            text = i % 3 == 0 ? text : spoilt(random, text, "sssrrrggg;;;;whtcxybp0123456789   q");
            fault(0, text, shoreFault(grammar, text));
        }
    }

    private static int shoreFault(Earley grammar, String text) {
        int plain = grammar.fault(text);
        int end = plain < 0 ? text.length() : plain;
        int[] clauses = new int[3];
        String[] bounds = {"w26h25t05c99", "", "x05y04b03p14"};
        StringBuilder there = new StringBuilder();
        int clause = 0;
        Matcher matcher = SHORE_SIGN.matcher(text.substring(0, end));
        while (matcher.find()) {
            if (matcher.group(1) != null) {
                clause = "srg".indexOf(matcher.group(1));
                clauses[clause]++;
                there.setLength(0);
                if (clauses[clause] > new int[] {1, 5, 4}[clause]) {
                    return matcher.start();
                }
                continue;
            }
            if (there.indexOf(matcher.group(2)) >= 0) {
                return matcher.start();
            }
            there.append(matcher.group(2));
            boolean thirdDigit = end < text.length() && matcher.end() == end && Character.isDigit(text.charAt(end));
            if (!thirdDigit && isOut(bounds[clause], matcher.group(2), Integer.parseInt(matcher.group(3)))) {
                return matcher.end() - 1;
            }
        }
        int lastLetter = letterThere(text, end, there);
        if (lastLetter >= 0) {
            return lastLetter;
        }
        return plain >= 0 || agrees(text) ? plain : text.length();
    }

    /** A letter that was there may be all that is left ahead of the place where the grammar ends. */
    private static int letterThere(String text, int end, StringBuilder there) {
        int at = text.substring(0, end).stripTrailing().length() - 1;
        if (at >= 0 && "whtcxybp".indexOf(text.charAt(at)) >= 0 && there.indexOf(text.substring(at, at + 1)) >= 0) {
            return at;
        }
        return -1;
    }

    private static boolean isOut(String bounds, String letter, int number) {
        int at = bounds.indexOf(letter);
        int least = bounds.charAt(at + 1) - '0';
        int most = bounds.charAt(at + 2) - '0';
        if (letter.equals("c")) {
            return false;
        }
        return number < least || number > most;
    }

    /** Whether rows and goers are within the shore, of a text that is well made. */
    private static boolean agrees(String text) {
        String plain = text.replace(" ", "");
        int wide = item(plain, "s", "w", 5);
        int rows = item(plain, "s", "h", 4);
        int rowCount = 0;
        int goerCount = 0;
        for (String clause : plain.split(";")) {
            if (clause.startsWith("r")) {
                rowCount++;
                if (clause.length() - 1 > wide) {
                    return false;
                }
            }
            if (clause.startsWith("g")) {
                goerCount++;
                if (item(clause, "g", "x", 0) >= wide || item(clause, "g", "y", 0) >= rows) {
                    return false;
                }
            }
        }
        return goerCount > 0 && rowCount <= rows;
    }

    private static int item(String text, String clause, String letter, int usual) {
        Matcher matcher = Pattern.compile("(?:^|;)" + clause + "[^;]*" + letter + "(\\d+)").matcher(text);
        return matcher.find() ? Integer.parseInt(matcher.group(1)) : usual;
    }
}
