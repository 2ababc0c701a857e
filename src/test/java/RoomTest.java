import java.lang.reflect.Array;
import java.lang.reflect.Field;
import java.lang.reflect.Modifier;
import java.util.IdentityHashMap;
import java.util.Map;

/**
 * What one run makes must fit into one room. Even 512 new objects do, 600,000 objects and 7.3 million fields and
 * elements being the room; and no call but the constructor makes anything.
 */
public final class RoomTest {
    private static final int CALLS = 512;
    private static final int RUNS = 80;

    private final Map<Object, Boolean> seen = new IdentityHashMap<>();
    private long cells = 0;

    private RoomTest() {
    }

    public static void main(String[] args) throws Exception {
        RoomTest room = new RoomTest();
        KeywordMatcher m = new KeywordMatcher();
        room.visit(m);
        System.out.println("one object: " + room.seen.size() + " objects, " + room.cells + " fields and elements");
        Check.due("too many objects", (long) room.seen.size() * CALLS > 600_000 ? 1 : 0, 0);
        Check.due("too many cells", room.cells * CALLS > 7_300_000 ? 1 : 0, 0);
        Check.due("bytes made by calls", madeByCalls() > 100_000 ? 1 : 0, 0);
        Check.finish("RoomTest");
    }

    private void visit(Object object) throws IllegalAccessException {
        if (object == null || seen.put(object, true) != null) {
            return;
        }
        if (object.getClass().isArray()) {
            cells += Array.getLength(object);
            if (!object.getClass().getComponentType().isPrimitive()) {
                for (Object element : (Object[]) object) {
                    visit(element);
                }
            }
            return;
        }
        for (Field field : object.getClass().getDeclaredFields()) {
            if (!Modifier.isStatic(field.getModifiers())) {
                cells++;
                field.setAccessible(true);
                if (!field.getType().isPrimitive()) {
                    visit(field.get(object));
                }
            }
        }
    }

    /** Eighty runs; a call that made a row of its own each time would make megabytes. */
    private static long madeByCalls() {
        KeywordMatcher[] fresh = new KeywordMatcher[RUNS];
        for (int i = 0; i < fresh.length; i++) {
            fresh[i] = new KeywordMatcher();
        }
        com.sun.management.ThreadMXBean threads =
                (com.sun.management.ThreadMXBean) java.lang.management.ManagementFactory.getThreadMXBean();
        long thread = Thread.currentThread().getId();
        long before = threads.getThreadAllocatedBytes(thread);
        long sum = 0;
        for (KeywordMatcher m : fresh) {
            sum += use(m);
        }
        long made = threads.getThreadAllocatedBytes(thread) - before;
        System.out.println(RUNS + " runs made " + made + " bytes (sum of the answers: " + sum + ")");
        return made;
    }

    /** Fourteen rounds of 36 calls, 504 in all; what is scanned and added makes many matches. */
    private static long use(KeywordMatcher m) {
        long sum = 0;
        for (int i = 0; i < 14; i++) {
            sum += m.appendBytes(0x61616161 + (i << 8), 0x61626161, 0x61616161 + i % 7, 0x61616261, 0);
            sum += i % 3 == 0 ? m.addKeyword(1 + i % 16, 5) : m.scan(16);
            sum += m.superstringLength() + m.superstringStart(0) + m.superstringByte(i);
            sum += m.coveredBytes() + m.coverWeight() + m.coverSize() + m.coverStart(i) + m.coverKeyword(i);
            sum += m.longestSize() + m.longestStart(i) + m.longestKeyword(i) + m.matchCount();
            sum += m.overlappingPairs() + m.maximumDepth() + m.containedMatches() + m.gapLength() + m.gapStart();
            sum += m.stateCount(i % 7) + m.currentDepth(i % 7) + m.failureLength(i / 3, 1) + m.plannedWork(40);
            sum += m.nearMatchCount(0, 3) + m.fewestMismatches(1) + m.nearestStart(2) + m.overlapLength(0, 1);
            sum += m.matchCountOf(i) + m.nextMatch(i, 0) + m.findKeyword(0) + m.levelOf(i) + m.isLive(i);
            sum += i % 7 == 6 ? m.removeKeyword(i / 7) : m.streamByte(i);
            sum += i == 12 ? m.resetStream() : m.setFolding(true);
        }
        return sum;
    }
}
