/** A new matcher and the number of calls made on it; no test uses an object for more calls than the document allows. */
final class Run {
    static final int MOST_CALLS = 512;

    private final KeywordMatcher matcher = new KeywordMatcher();
    private int calls = 0;

    int calls() {
        return calls;
    }

    int left() {
        return MOST_CALLS - calls;
    }

    private KeywordMatcher called() {
        calls++;
        if (calls > MOST_CALLS) {
            throw new IllegalStateException("a test uses one object for more than " + MOST_CALLS + " calls");
        }
        return matcher;
    }

    int appendBytes(int a, int b, int c, int d, int e) {
        return called().appendBytes(a, b, c, d, e);
    }

    int bufferLength() {
        return called().bufferLength();
    }

    int addKeyword(int n, int weight) {
        return called().addKeyword(n, weight);
    }

    int removeKeyword(int keyword) {
        return called().removeKeyword(keyword);
    }

    int findKeyword(int n) {
        return called().findKeyword(n);
    }

    int keywordLength(int keyword) {
        return called().keywordLength(keyword);
    }

    int keywordByte(int keyword, int index) {
        return called().keywordByte(keyword, index);
    }

    int keywordWeight(int keyword) {
        return called().keywordWeight(keyword);
    }

    int isLive(int keyword) {
        return called().isLive(keyword);
    }

    int liveCount() {
        return called().liveCount();
    }

    int setFolding(boolean on) {
        return called().setFolding(on);
    }

    int mainSize(int level) {
        return called().mainSize(level);
    }

    int removalSize(int level) {
        return called().removalSize(level);
    }

    int stateCount(int level) {
        return called().stateCount(level);
    }

    int currentDepth(int level) {
        return called().currentDepth(level);
    }

    int levelOf(int keyword) {
        return called().levelOf(keyword);
    }

    int failureLength(int keyword, int length) {
        return called().failureLength(keyword, length);
    }

    int buildWork() {
        return called().buildWork();
    }

    int plannedWork(int count) {
        return called().plannedWork(count);
    }

    int rebuildCount() {
        return called().rebuildCount();
    }

    int scan(int n) {
        return called().scan(n);
    }

    int resetStream() {
        return called().resetStream();
    }

    int streamLength() {
        return called().streamLength();
    }

    int streamByte(int position) {
        return called().streamByte(position);
    }

    int reportCount() {
        return called().reportCount();
    }

    int reportEnd(int index) {
        return called().reportEnd(index);
    }

    int reportKeyword(int index) {
        return called().reportKeyword(index);
    }

    int matchCount() {
        return called().matchCount();
    }

    int matchCountOf(int keyword) {
        return called().matchCountOf(keyword);
    }

    int nextMatch(int keyword, int position) {
        return called().nextMatch(keyword, position);
    }

    int overlappingPairs() {
        return called().overlappingPairs();
    }

    int maximumDepth() {
        return called().maximumDepth();
    }

    int containedMatches() {
        return called().containedMatches();
    }

    int gapLength() {
        return called().gapLength();
    }

    int gapStart() {
        return called().gapStart();
    }

    int overlapLength(int first, int second) {
        return called().overlapLength(first, second);
    }

    int nearMatchCount(int keyword, int mismatches) {
        return called().nearMatchCount(keyword, mismatches);
    }

    int fewestMismatches(int keyword) {
        return called().fewestMismatches(keyword);
    }

    int nearestStart(int keyword) {
        return called().nearestStart(keyword);
    }

    int superstringLength() {
        return called().superstringLength();
    }

    int superstringByte(int index) {
        return called().superstringByte(index);
    }

    int superstringStart(int keyword) {
        return called().superstringStart(keyword);
    }

    int coveredBytes() {
        return called().coveredBytes();
    }

    int coverWeight() {
        return called().coverWeight();
    }

    int coverSize() {
        return called().coverSize();
    }

    int coverStart(int index) {
        return called().coverStart(index);
    }

    int coverKeyword(int index) {
        return called().coverKeyword(index);
    }

    int longestSize() {
        return called().longestSize();
    }

    int longestStart(int index) {
        return called().longestStart(index);
    }

    int longestKeyword(int index) {
        return called().longestKeyword(index);
    }
}
