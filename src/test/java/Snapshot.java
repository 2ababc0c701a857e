import java.util.ArrayList;
import java.util.List;
import java.util.function.Consumer;
import java.util.function.Function;
import java.util.function.IntUnaryOperator;
import java.util.function.Supplier;

/**
 * All that a matcher can be asked for, to see whether a call changed anything. As an object is used for 512 calls only,
 * the questions are put to several matchers that were made in the same way; the last ones also change the matcher, to
 * see what no question shows.
 */
final class Snapshot {
    private static final int KEYWORDS_AT_ONCE = 3;
    private static final int INDEXES_AT_ONCE = 130;

    private final List<Integer> answers = new ArrayList<>();
    private Run m;

    private Snapshot() {
    }

    static List<Integer> of(Supplier<Run> made) {
        Snapshot all = new Snapshot();
        all.ask(made, Snapshot::counts);
        int given = size(made, Snapshot::given);
        for (int from = 0; from <= given; from += KEYWORDS_AT_ONCE) {
            int first = from;
            all.ask(made, s -> s.keywords(first));
        }
        all.list(made, size(made, Run::streamLength), s -> s.m::streamByte);
        all.list(made, Math.min(size(made, Run::reportCount), 301), s -> s.m::reportEnd);
        all.list(made, Math.min(size(made, Run::reportCount), 301), s -> s.m::reportKeyword);
        all.list(made, size(made, Run::superstringLength), s -> s.m::superstringByte);
        all.list(made, Math.min(size(made, Run::coverSize), 40), s -> s.m::coverStart);
        all.list(made, Math.min(size(made, Run::coverSize), 40), s -> s.m::coverKeyword);
        all.list(made, Math.min(size(made, Run::longestSize), 40), s -> s.m::longestStart);
        all.list(made, Math.min(size(made, Run::longestSize), 40), s -> s.m::longestKeyword);
        all.list(made, size(made, Run::bufferLength), Snapshot::bufferByte);
        all.ask(made, Snapshot::folding);
        all.ask(made, Snapshot::goOn);
        return all.answers;
    }

    private void ask(Supplier<Run> made, Consumer<Snapshot> questions) {
        m = made.get();
        questions.accept(this);
    }

    private static int size(Supplier<Run> made, Function<Run, Integer> question) {
        return question.apply(made.get());
    }

    private void list(Supplier<Run> made, int size, Function<Snapshot, IntUnaryOperator> question) {
        for (int from = 0; from <= size; from += INDEXES_AT_ONCE) {
            m = made.get();
            IntUnaryOperator asked = question.apply(this);
            for (int index = from; index <= size && index < from + INDEXES_AT_ONCE; index++) {
                answers.add(asked.applyAsInt(index));
            }
        }
    }

    private static int given(Run m) {
        int given = 0;
        while (m.isLive(given) >= 0) {
            given++;
        }
        return given;
    }

    private void counts() {
        answers.addAll(List.of(m.bufferLength(), m.liveCount(), m.buildWork(), m.rebuildCount(), m.plannedWork(40)));
        answers.addAll(List.of(m.streamLength(), m.reportCount(), m.matchCount(), m.overlappingPairs()));
        answers.addAll(List.of(m.maximumDepth(), m.containedMatches(), m.gapLength(), m.gapStart()));
        answers.addAll(List.of(m.superstringLength(), m.coveredBytes(), m.coverWeight(), m.coverSize()));
        answers.add(m.longestSize());
        for (int level = 0; level <= 6; level++) {
            answers.addAll(List.of(m.mainSize(level), m.removalSize(level)));
            answers.addAll(List.of(m.stateCount(level), m.currentDepth(level)));
        }
    }

    private void keywords(int from) {
        for (int k = from; k < from + KEYWORDS_AT_ONCE; k++) {
            answers.addAll(List.of(m.keywordLength(k), m.keywordWeight(k), m.isLive(k), m.levelOf(k)));
            answers.addAll(List.of(m.matchCountOf(k), m.nextMatch(k, 0), m.nearMatchCount(k, 1)));
            answers.addAll(List.of(m.fewestMismatches(k), m.nearestStart(k), m.superstringStart(k)));
            answers.add(m.overlapLength(k, 0));
            for (int i = 0; i <= 16; i++) {
                answers.addAll(List.of(m.keywordByte(k, i), m.failureLength(k, i)));
            }
        }
    }

    /** The bytes of the buffer are seen by scanning them. */
    private IntUnaryOperator bufferByte() {
        m.resetStream();
        m.scan(m.bufferLength());
        return m::streamByte;
    }

    /** The folding setting is seen by setting it when nothing stands in the way. */
    private void folding() {
        m.resetStream();
        int given = given(m);
        for (int k = 0; k < given && m.liveCount() > 0; k++) {
            m.removeKeyword(k);
        }
        answers.add(m.setFolding(true));
    }

    /** What the next calls answer. */
    private void goOn() {
        answers.add(m.findKeyword(0));
        answers.add(Check.scan(m, "abcABC"));
        answers.add(m.reportCount());
        answers.add(m.matchCount());
        answers.add(Check.add(m, "bcA", 3));
        answers.add(m.removeKeyword(0));
        answers.add(Check.add(m, "Abca", 3));
        answers.addAll(List.of(m.matchCount(), m.buildWork(), m.rebuildCount(), m.coverWeight(), m.superstringLength()));
    }
}
