import com.sun.management.ThreadMXBean;
import java.lang.management.ManagementFactory;
import java.lang.reflect.Array;
import java.lang.reflect.Field;
import java.lang.reflect.Modifier;
import java.util.ArrayDeque;
import java.util.Collections;
import java.util.Deque;
import java.util.IdentityHashMap;
import java.util.Random;
import java.util.Set;

/** What an object holds is counted, and so is what its calls make: next to nothing (LANGUAGE.md, rule 12). */
public final class RoomTest {
    private static final Checks CHECKS = new Checks("RoomTest");
    private static final int MOST_OBJECTS = 80;
    private static final int MOST_ELEMENTS = 6000;
    private static final int MOST_CALLS = 512;
    /** No object is smaller: one a call would be found. */
    private static final int SMALLEST_OBJECT = 16;
    private static final ThreadMXBean THREADS = (ThreadMXBean) ManagementFactory.getThreadMXBean();
    /** The most that this shore, by this law, lets any call do. */
    private static final String SHORE = "sw6h5;gx1y1p4;gx4y1b2p4;gx1y3b0p4;gx4y3b3p4";
    private static final String LAW = longest();

    private static long answers;

    public static void main(String[] args) throws IllegalAccessException {
        held("a new object", new PrintsGoOn());
        held("a used one", used());
        made();
        CHECKS.end();
    }

    private static String longest() {
        StringBuilder law = new StringBuilder("y:a=1?b+1;y:b");
        while (law.length() < 238) {
            law.append("+0");
        }
        return law.toString();
    }

    private static PrintsGoOn used() {
        PrintsGoOn prints = Checks.shore(SHORE);
        for (int i = 0; i < 4; i++) {
            Checks.tell(prints, 1, LAW);
            Checks.tell(prints, 2, "g00;h;t1;s10;g11;h;t2;s11;g22;h;t3;s12;g33;h;t4;s13");
        }
        prints.law(3);
        prints.years(30, 5);
        prints.years(30, 6);
        prints.image();
        for (int i = 0; i < 10; i++) {
            prints.seen(0, i, i);
        }
        return prints;
    }

    private static void held(String what, PrintsGoOn prints) throws IllegalAccessException {
        Set<Object> found = Collections.newSetFromMap(new IdentityHashMap<>());
        Deque<Object> open = new ArrayDeque<>();
        open.add(prints);
        found.add(prints);
        long elements = 0;
        while (!open.isEmpty()) {
            Object object = open.pop();
            if (object.getClass().isArray()) {
                elements += Array.getLength(object);
                if (object instanceof Object[] row) {
                    for (Object inside : row) {
                        find(inside, found, open);
                    }
                }
                continue;
            }
            for (Field field : object.getClass().getDeclaredFields()) {
                if (!Modifier.isStatic(field.getModifiers())) {
                    elements++;
                    field.setAccessible(true);
                    if (!field.getType().isPrimitive()) {
                        find(field.get(object), found, open);
                    }
                }
            }
        }
        CHECKS.due(what + " has " + found.size() + " objects and rows", found.size() <= MOST_OBJECTS, true);
        CHECKS.due(what + " has " + elements + " fields and elements", elements <= MOST_ELEMENTS, true);
    }

    private static void find(Object object, Set<Object> found, Deque<Object> open) {
        if (object != null && found.add(object)) {
            open.add(object);
        }
    }

    /** Each call alone: what it makes when it is called as often as it may be. */
    private static void made() {
        for (int method = 0; method < 30; method++) {
            PrintsGoOn prints = used();
            Random random = new Random(method);
            call(prints, method, random);
            long before = THREADS.getThreadAllocatedBytes(Thread.currentThread().getId());
            for (int i = 0; i < MOST_CALLS; i++) {
                call(prints, method, random);
            }
            long bytes = THREADS.getThreadAllocatedBytes(Thread.currentThread().getId()) - before;
            CHECKS.due("method " + method + " made " + bytes + " bytes", bytes < MOST_CALLS * SMALLEST_OBJECT, true);
        }
        CHECKS.due("answers were told", answers != 0, true);
    }

    private static void call(PrintsGoOn prints, int method, Random random) {
        int any = random.nextInt(4);
        answers += switch (method) {
            case 0 -> prints.feed(0, 0, 0, 0, 0);
            case 1 -> prints.fault(any % 3);
            case 2 -> prints.shore(any, 1);
            case 3 -> prints.hour();
            case 4 -> prints.tide(any);
            case 5 -> prints.stone(any);
            case 6 -> prints.sweep(any);
            case 7 -> prints.anew(any, any);
            case 8 -> prints.give(1);
            case 9 -> prints.years(15, any);
            case 10 -> prints.undo();
            case 11 -> prints.log(any, 1);
            case 12 -> prints.step(any, any, 1);
            case 13 -> prints.run(any, 1);
            case 14 -> prints.perform(any);
            case 15 -> prints.where(any, 99);
            case 16 -> prints.meet(any, any + 1 & 3);
            case 17 -> prints.ends(any, 0);
            case 18 -> prints.again(any);
            case 19 -> prints.way(any, 20);
            case 20 -> prints.stones(any, any + 1 & 3, 4, 0);
            case 21 -> prints.fits(any, any);
            case 22 -> prints.ask(any);
            case 23 -> prints.game(any, any + 1 & 3, any, any, 0);
            case 24 -> prints.rests(any, any + 1 & 3, 0);
            case 25 -> prints.odds(any, any, 6, 50);
            case 26 -> prints.ahead(any);
            case 27 -> prints.all(any + 4);
            case 28 -> prints.image();
            default -> prints.back();
        };
    }
}
