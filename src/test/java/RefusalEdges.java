import java.util.ArrayList;
import java.util.List;
import java.util.function.Supplier;
import java.util.function.ToIntFunction;

/** What a refused call answers if several constants apply, and that it changes nothing but the text buffer. */
final class RefusalEdges extends Edges {
    private record Call(String name, ToIntFunction<Run> call, int want) {
    }

    private RefusalEdges() {
    }

    static void run() {
        firstNamed();
        beforeNone();
        says("D7", "A method that returns one of the constants NO_SUCH, BAD_VALUE, BAD_TEXT, DUPLICATE, FULL or BUSY");
        dueUnchanged("empty", Run::new, refusedAlways());
        dueUnchanged("small", RefusalEdges::small, refusedAlways());
        dueUnchanged("small", RefusalEdges::small, refusedOfSmall());
        dueUnchanged("folded", RefusalEdges::smallFolded, refusedOfSmall());
        dueUnchanged("full", RefusalEdges::full, refusedAlways());
        dueUnchanged("full", RefusalEdges::full, refusedOfFull());
        dueUnchanged("used up", RefusalEdges::usedUp, refusedOfUsedUp());
        dueEmptied("small", RefusalEdges::small, emptyingSmall());
        dueEmptied("folded", RefusalEdges::smallFolded, emptyingSmall());
        dueEmptied("full", RefusalEdges::full, emptyingFull());
        dueEmptied("used up", RefusalEdges::usedUp, emptyingUsedUp());
        dueUnchanged("questions to small", RefusalEdges::small, questions());
        dueUnchanged("questions to full", RefusalEdges::full, questions());
        dueUnchanged("questions to empty", Run::new, questions());
    }

    private static Run smallWith(boolean on) {
        Run m = folded(on, "ab", "bc", "b", "cab", "zz");
        Check.scan(m, "xabcABcab");
        m.removeKeyword(4);
        Check.feed(m, "ab bcabc" + "q".repeat(20));
        return m;
    }

    private static Run small() {
        return smallWith(false);
    }

    private static Run smallFolded() {
        return smallWith(true);
    }

    /** All that can be full is full: live keywords, the stream, the stored reports and the buffer. */
    private static Run full() {
        Run m = crowd(38);
        Check.add(m, "a", 1);
        Check.add(m, "b", 1);
        m.removeKeyword(3);
        Check.add(m, "ab", 5);
        scanAll(m, "ab".repeat(300));
        Check.feed(m, "ab" + " ".repeat(198));
        return m;
    }

    /** All numbers are given out, and none is live. */
    private static Run usedUp() {
        Run m = given(120, 0);
        Check.feed(m, "ab ");
        return m;
    }

    private static void dueUnchanged(String state, Supplier<Run> made, List<Call> calls) {
        List<Integer> before = Snapshot.of(made);
        for (Call call : calls) {
            due(state + ": " + call.name, call.call.applyAsInt(made.get()), call.want);
            List<Integer> after = Snapshot.of(() -> afterCall(made, call));
            due(state + " is as before " + call.name, after.equals(before) ? 1 : 0, 1);
        }
    }

    private static void dueEmptied(String state, Supplier<Run> made, List<Call> calls) {
        List<Integer> before = Snapshot.of(() -> emptied(made));
        for (Call call : calls) {
            due(state + ": " + call.name, call.call.applyAsInt(made.get()), call.want);
            List<Integer> after = Snapshot.of(() -> afterCall(made, call));
            due(state + " but the buffer is as before " + call.name, after.equals(before) ? 1 : 0, 1);
        }
    }

    private static Run afterCall(Supplier<Run> made, Call call) {
        Run m = made.get();
        call.call.applyAsInt(m);
        return m;
    }

    private static Run emptied(Supplier<Run> made) {
        Run m = made.get();
        due("findKeyword(0)", m.findKeyword(0), NONE);
        return m;
    }

    /** Calls that are refused in every state in which no number from 120 on is given out. */
    private static List<Call> refusedAlways() {
        List<Call> calls = new ArrayList<>();
        for (int k : new int[] {LOWEST, -1, 120, HIGHEST}) {
            calls.add(new Call("removeKeyword " + k, m -> m.removeKeyword(k), NO_SUCH));
            calls.add(new Call("keywordLength " + k, m -> m.keywordLength(k), NO_SUCH));
            calls.add(new Call("keywordByte " + k, m -> m.keywordByte(k, 0), NO_SUCH));
            calls.add(new Call("keywordWeight " + k, m -> m.keywordWeight(k), NO_SUCH));
            calls.add(new Call("isLive " + k, m -> m.isLive(k), NO_SUCH));
            calls.add(new Call("levelOf " + k, m -> m.levelOf(k), NO_SUCH));
            calls.add(new Call("failureLength " + k, m -> m.failureLength(k, 1), NO_SUCH));
            calls.add(new Call("matchCountOf " + k, m -> m.matchCountOf(k), NO_SUCH));
            calls.add(new Call("nextMatch " + k, m -> m.nextMatch(k, 0), NO_SUCH));
            calls.add(new Call("overlapLength " + k, m -> m.overlapLength(k, k), NO_SUCH));
            calls.add(new Call("nearMatchCount " + k, m -> m.nearMatchCount(k, 0), NO_SUCH));
            calls.add(new Call("fewestMismatches " + k, m -> m.fewestMismatches(k), NO_SUCH));
            calls.add(new Call("nearestStart " + k, m -> m.nearestStart(k), NO_SUCH));
            calls.add(new Call("superstringStart " + k, m -> m.superstringStart(k), NO_SUCH));
        }
        for (int level : new int[] {-1, 7}) {
            calls.add(new Call("mainSize " + level, m -> m.mainSize(level), BAD_VALUE));
            calls.add(new Call("removalSize " + level, m -> m.removalSize(level), BAD_VALUE));
            calls.add(new Call("stateCount " + level, m -> m.stateCount(level), BAD_VALUE));
            calls.add(new Call("currentDepth " + level, m -> m.currentDepth(level), BAD_VALUE));
        }
        for (int n : new int[] {-1, 201}) {
            calls.add(new Call("addKeyword " + n, m -> m.addKeyword(n, 1), BAD_VALUE));
            calls.add(new Call("findKeyword " + n, m -> m.findKeyword(n), BAD_VALUE));
            calls.add(new Call("scan " + n, m -> m.scan(n), BAD_VALUE));
            calls.add(new Call("plannedWork " + n, m -> m.plannedWork(n), BAD_VALUE));
        }
        calls.add(new Call("addKeyword of weight 0", m -> m.addKeyword(0, 0), BAD_VALUE));
        calls.add(new Call("addKeyword of weight 100", m -> m.addKeyword(0, 100), BAD_VALUE));
        calls.add(new Call("streamByte", m -> m.streamByte(-1), BAD_VALUE));
        calls.add(new Call("reportEnd", m -> m.reportEnd(-1), BAD_VALUE));
        calls.add(new Call("reportKeyword", m -> m.reportKeyword(-1), BAD_VALUE));
        calls.add(new Call("superstringByte", m -> m.superstringByte(-1), BAD_VALUE));
        calls.add(new Call("coverStart", m -> m.coverStart(-1), BAD_VALUE));
        calls.add(new Call("coverKeyword", m -> m.coverKeyword(-1), BAD_VALUE));
        calls.add(new Call("longestStart", m -> m.longestStart(-1), BAD_VALUE));
        calls.add(new Call("longestKeyword", m -> m.longestKeyword(-1), BAD_VALUE));
        return calls;
    }

    private static List<Call> refusedOfSmall() {
        List<Call> calls = new ArrayList<>();
        calls.add(new Call("addKeyword above the buffer", m -> m.addKeyword(41, 1), BAD_VALUE));
        calls.add(new Call("addKeyword of weight 0", m -> m.addKeyword(8, 0), BAD_VALUE));
        calls.add(new Call("findKeyword above the buffer", m -> m.findKeyword(41), BAD_VALUE));
        calls.add(new Call("scan above the buffer", m -> m.scan(41), BAD_VALUE));
        calls.add(new Call("removeKeyword of a removed one", m -> m.removeKeyword(4), NO_SUCH));
        calls.add(new Call("setFolding off", m -> m.setFolding(false), BUSY));
        calls.add(new Call("setFolding on", m -> m.setFolding(true), BUSY));
        calls.add(new Call("keywordByte", m -> m.keywordByte(0, -1), BAD_VALUE));
        calls.add(new Call("failureLength 0", m -> m.failureLength(0, 0), BAD_VALUE));
        calls.add(new Call("failureLength 3", m -> m.failureLength(0, 3), BAD_VALUE));
        calls.add(new Call("plannedWork", m -> m.plannedWork(41), BAD_VALUE));
        calls.add(new Call("matchCountOf a removed one", m -> m.matchCountOf(4), NO_SUCH));
        calls.add(new Call("nextMatch of a removed one", m -> m.nextMatch(4, 0), NO_SUCH));
        calls.add(new Call("nextMatch", m -> m.nextMatch(0, -1), BAD_VALUE));
        calls.add(new Call("nearMatchCount", m -> m.nearMatchCount(0, 4), BAD_VALUE));
        calls.add(new Call("superstringStart of a removed one", m -> m.superstringStart(4), NO_SUCH));
        return calls;
    }

    private static List<Call> refusedOfFull() {
        List<Call> calls = new ArrayList<>();
        calls.add(new Call("appendBytes", m -> m.appendBytes(1, 2, 3, 4, 5), FULL));
        calls.add(new Call("setFolding", m -> m.setFolding(true), BUSY));
        calls.add(new Call("removeKeyword of a removed one", m -> m.removeKeyword(3), NO_SUCH));
        calls.add(new Call("scan above the buffer", m -> m.scan(201), BAD_VALUE));
        calls.add(new Call("addKeyword of weight 100", m -> m.addKeyword(2, 100), BAD_VALUE));
        return calls;
    }

    private static List<Call> refusedOfUsedUp() {
        List<Call> calls = new ArrayList<>();
        calls.add(new Call("removeKeyword of the last one", m -> m.removeKeyword(119), NO_SUCH));
        calls.add(new Call("isLive behind the last one", m -> m.isLive(120), NO_SUCH));
        calls.add(new Call("addKeyword above the buffer", m -> m.addKeyword(21, 1), BAD_VALUE));
        return calls;
    }

    /** Refused calls that empty the buffer, and no more. */
    private static List<Call> emptyingSmall() {
        List<Call> calls = new ArrayList<>();
        calls.add(new Call("addKeyword of an equal one", m -> m.addKeyword(2, 9), DUPLICATE));
        calls.add(new Call("addKeyword with a bad byte", m -> m.addKeyword(3, 9), BAD_TEXT));
        calls.add(new Call("addKeyword of no bytes", m -> m.addKeyword(0, 9), BAD_TEXT));
        calls.add(new Call("addKeyword of too many bytes", m -> m.addKeyword(40, 9), BAD_TEXT));
        calls.add(new Call("findKeyword of no live one", m -> m.findKeyword(1), NONE));
        calls.add(new Call("findKeyword", m -> m.findKeyword(2), 0));
        calls.add(new Call("scan of no bytes", m -> m.scan(0), 0));
        return calls;
    }

    private static List<Call> emptyingFull() {
        List<Call> calls = new ArrayList<>();
        calls.add(new Call("scan of one byte", m -> m.scan(1), FULL));
        calls.add(new Call("scan of all bytes", m -> m.scan(200), FULL));
        calls.add(new Call("addKeyword of an equal one", m -> m.addKeyword(2, 9), DUPLICATE));
        calls.add(new Call("addKeyword of no bytes", m -> m.addKeyword(0, 9), BAD_TEXT));
        calls.add(new Call("addKeyword of too many bytes", m -> m.addKeyword(17, 9), BAD_TEXT));
        calls.add(new Call("scan of no bytes", m -> m.scan(0), 0));
        calls.add(new Call("addKeyword of the 41st", m -> addOther(m), FULL));
        return calls;
    }

    /** A keyword that is not live, behind what empties the buffer. */
    private static int addOther(Run m) {
        m.findKeyword(0);
        return Check.add(m, "ba", 1);
    }

    private static List<Call> emptyingUsedUp() {
        List<Call> calls = new ArrayList<>();
        calls.add(new Call("addKeyword of the 121st", m -> m.addKeyword(2, 1), FULL));
        calls.add(new Call("addKeyword with a bad byte", m -> m.addKeyword(3, 1), BAD_TEXT));
        return calls;
    }

    /** Questions whose answers are of no interest here change nothing either. */
    private static List<Call> questions() {
        List<ToIntFunction<Run>> asked = List.of(Run::bufferLength, m -> m.keywordLength(0), m -> m.keywordByte(0, 0),
                m -> m.keywordWeight(0), m -> m.isLive(0), Run::liveCount, m -> m.mainSize(0), m -> m.removalSize(0),
                m -> m.stateCount(1), m -> m.currentDepth(1), m -> m.levelOf(0), m -> m.failureLength(0, 1),
                Run::buildWork, m -> m.plannedWork(40), Run::rebuildCount, Run::streamLength, m -> m.streamByte(0),
                Run::reportCount, m -> m.reportEnd(0), m -> m.reportKeyword(0), Run::matchCount,
                m -> m.matchCountOf(0), m -> m.nextMatch(0, 0), Run::overlappingPairs, Run::maximumDepth,
                Run::containedMatches, Run::gapLength, Run::gapStart, m -> m.overlapLength(0, 1),
                m -> m.nearMatchCount(0, 3), m -> m.fewestMismatches(0), m -> m.nearestStart(0),
                Run::superstringLength, m -> m.superstringByte(0), m -> m.superstringStart(0), Run::coveredBytes,
                Run::coverWeight, Run::coverSize, m -> m.coverStart(0), m -> m.coverKeyword(0), Run::longestSize,
                m -> m.longestStart(0), m -> m.longestKeyword(0));
        List<Call> calls = new ArrayList<>();
        calls.add(new Call("all questions", m -> asked.stream().mapToInt(q -> q.applyAsInt(m) * 0).sum(), 0));
        return calls;
    }

    private static void firstNamed() {
        says("D7", "If several of these constants apply, the one named first in the description is returned");
        Run m = full();
        due("addKeyword: BAD_VALUE, BAD_TEXT, FULL", m.addKeyword(201, 1), BAD_VALUE);
        due("addKeyword: BAD_VALUE, DUPLICATE, FULL", m.addKeyword(2, 0), BAD_VALUE);
        due("addKeyword: BAD_TEXT, FULL", m.addKeyword(3, 1), BAD_TEXT);
        due("addKeyword: DUPLICATE, FULL", Check.add(m, "ab", 1), DUPLICATE);
        due("addKeyword: FULL", Check.add(m, "ba", 1), FULL);
        Run used = given(120, 1);
        due("addKeyword: BAD_VALUE, FULL", used.addKeyword(1, 1), BAD_VALUE);
        due("addKeyword: BAD_TEXT, FULL", Check.add(used, "", 1), BAD_TEXT);
        due("addKeyword: DUPLICATE, FULL", Check.add(used, pair(119), 1), DUPLICATE);
        due("scan: BAD_VALUE, FULL", full().scan(201), BAD_VALUE);
        due("keywordByte: NO_SUCH, BAD_VALUE", used.keywordByte(120, -1), NO_SUCH);
        due("failureLength: NO_SUCH, BAD_VALUE", used.failureLength(120, 0), NO_SUCH);
        due("nextMatch: NO_SUCH, BAD_VALUE", used.nextMatch(118, -1), NO_SUCH);
        due("nearMatchCount: NO_SUCH, BAD_VALUE", used.nearMatchCount(118, 4), NO_SUCH);
    }

    private static void beforeNone() {
        says("D7", "These constants are checked before NONE");
        Run m = with("abc", "d", "e");
        due("remove", m.removeKeyword(0) + m.removeKeyword(1), 3);
        due("keywordByte of no keyword", m.keywordByte(3, 16), NO_SUCH);
        due("failureLength: BAD_VALUE", m.failureLength(0, 4), BAD_VALUE);
        due("failureLength: BAD_VALUE", m.failureLength(0, 0), BAD_VALUE);
        due("failureLength: NONE", m.failureLength(0, 3), NONE);
        due("levelOf: NO_SUCH", m.levelOf(3), NO_SUCH);
        due("findKeyword: BAD_VALUE", m.findKeyword(1), BAD_VALUE);
        due("nextMatch: BAD_VALUE", m.nextMatch(2, -1), BAD_VALUE);
        due("nextMatch: NO_SUCH", m.nextMatch(0, 0), NO_SUCH);
        due("fewestMismatches: NO_SUCH", m.fewestMismatches(0), NO_SUCH);
        due("nearestStart: NO_SUCH", m.nearestStart(0), NO_SUCH);
        due("stateCount: BAD_VALUE", m.stateCount(7), BAD_VALUE);
        due("currentDepth: BAD_VALUE", m.currentDepth(-1), BAD_VALUE);
        due("streamByte: BAD_VALUE", m.streamByte(-1), BAD_VALUE);
        due("reportEnd: BAD_VALUE", m.reportEnd(-1), BAD_VALUE);
        due("reportKeyword: BAD_VALUE", m.reportKeyword(-1), BAD_VALUE);
        due("coverStart: BAD_VALUE", m.coverStart(-1), BAD_VALUE);
        due("coverKeyword: BAD_VALUE", m.coverKeyword(-1), BAD_VALUE);
        due("longestStart: BAD_VALUE", m.longestStart(-1), BAD_VALUE);
        due("longestKeyword: BAD_VALUE", m.longestKeyword(-1), BAD_VALUE);
        due("superstringByte: BAD_VALUE", new Run().superstringByte(-1), BAD_VALUE);
    }
}
