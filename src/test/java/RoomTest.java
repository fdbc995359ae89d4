import java.lang.management.ManagementFactory;
import java.lang.reflect.Array;
import java.lang.reflect.Field;
import java.lang.reflect.Modifier;
import java.util.ArrayDeque;
import java.util.Collections;
import java.util.Deque;
import java.util.IdentityHashMap;
import java.util.Set;

/** All calls of a run live in one room: what an object takes of it, and that its calls take no more. */
public final class RoomTest {
    private static final Due DUE = new Due();
    // So that even 512 objects fit: 600,000 objects and arrays, 7.3 million fields and elements.
    private static final int MOST_OBJECTS = 600_000 / 512;
    private static final int MOST_ELEMENTS = 7_300_000 / 512;
    // The machine's own measuring makes a few objects.
    private static final long SLACK = 2_000;
    private static final String TEXT = "clock bell 3 10 2 60 4; chance dog 9 5 50 1; place a 0; place b 4; shot s 3 20;"
        + "shot t 2 40; shot u 4 30; hear = if far < 3 then loud else loud - far * age; rustles = stood / 9; seed 3;";

    private static void measureObject() throws IllegalAccessException {
        Set<Object> seen = Collections.newSetFromMap(new IdentityHashMap<>());
        Deque<Object> open = new ArrayDeque<>();
        open.add(new QuietTake());
        int elements = 0;
        while (!open.isEmpty()) {
            Object one = open.pop();
            if (one instanceof String || !seen.add(one)) {
                continue;
            }
            if (one.getClass().isArray()) {
                elements += Array.getLength(one);
                for (int i = 0; !one.getClass().getComponentType().isPrimitive() && i < Array.getLength(one); i++) {
                    open.add(Array.get(one, i));
                }
                continue;
            }
            for (Field field : one.getClass().getDeclaredFields()) {
                if (!Modifier.isStatic(field.getModifiers())) {
                    elements++;
                    field.setAccessible(true);
                    if (!field.getType().isPrimitive()) {
                        open.add(field.get(one));
                    }
                }
            }
        }
        System.out.println("an object takes " + seen.size() + " objects and arrays, " + elements + " fields and elements");
        DUE.is("objects and arrays, held to the most", Math.max(seen.size(), MOST_OBJECTS), MOST_OBJECTS);
        DUE.is("fields and elements, held to the most", Math.max(elements, MOST_ELEMENTS), MOST_ELEMENTS);
    }

    private static void callAll(QuietTake x, int[][] words, int blanks) {
        for (int[] w : words) {
            x.feed(w[0], w[1], w[2], w[3], w[4]);
        }
        x.back(blanks);
        x.read();
        for (int i = 0; i < 3; i++) {
            x.noise(1, 5);
            x.shot(1, 2);
            x.heard(1, 1, 9);
            x.loud(0, 4);
            x.bears(1, 1);
            x.hold(i);
            x.waits(3);
            x.take(1);
            x.moves(1 - i % 2);
            x.pay(1, 3);
            x.rests(2);
            x.undo();
            x.hole(0, 9, 30);
            x.holes(1, 9, 30);
            x.softest(0, 9, 0);
            x.next(1);
            x.loudest(0, 0);
            x.peak(1, 1);
            x.calmest(40);
            x.ours(1);
            x.best(2, 0);
            x.order(-1);
            x.bribe(2, 0);
            x.cellar(30, 1);
            x.cheapest(0, 0);
            x.breakOff(0, 5);
            x.join(0);
            x.odds(0, 7, 20);
            x.tell(0, 4, 50);
            x.when(i, -1);
            x.restore(i);
            x.count(13);
            x.place();
        }
        x.forget();
    }

    private static void measureCalls() {
        com.sun.management.ThreadMXBean threads = (com.sun.management.ThreadMXBean) ManagementFactory.getThreadMXBean();
        int[][] words = Feeding.words(TEXT);
        long least = Long.MAX_VALUE;
        for (int round = 0; round < 9; round++) {
            QuietTake x = new QuietTake();
            long ahead = threads.getCurrentThreadAllocatedBytes();
            callAll(x, words, Feeding.blanks(TEXT));
            least = Math.min(least, threads.getCurrentThreadAllocatedBytes() - ahead);
        }
        System.out.println("a hundred calls take " + least + " bytes");
        DUE.is("bytes of a hundred calls, held to the slack", (int) Math.max(least, SLACK), (int) SLACK);
    }

    public static void main(String[] args) throws IllegalAccessException {
        measureObject();
        measureCalls();
        DUE.end();
    }
}
