import java.util.function.IntUnaryOperator;

/** Boundary cases of the buckets: promises 13 to 21. */
final class BucketEdges extends Edges {
    private static final int WIDEST_MAIN = 78;
    private static final int WIDEST_REMOVAL = 38;

    private BucketEdges() {
    }

    static void run() {
        doublingSizes();
        inserting();
        bothSets();
        rebuildPoint();
        rebuildOrder();
        widestSets();
        work();
        sizes();
        states();
        mostStates();
        depths();
        depthsAfterChanges();
        levels();
        failureLengths();
        failureRanges();
        countingWork();
        plannedWork();
        plannedLimits();
        rebuilds();
    }

    /**
     * The largest sets there can be, without a rebuild: 40 live keywords and 38 removed ones. One removal more would
     * make twice the removed ones as many as all.
     */
    private static Run widest() {
        Run m = crowd(40);
        int removed = 0;
        int given = 40;
        while (given < WIDEST_MAIN) {
            while (2 * (removed + 1) < given) {
                due("remove", m.removeKeyword(removed), given - removed - 1);
                removed++;
            }
            while (given - removed < 40) {
                due("add", Check.add(m, pair(given), 1), given);
                given++;
            }
        }
        due("removed", removed, WIDEST_REMOVAL);
        return m;
    }

    private static void dueSizes(Run m, int main, int removal) {
        dueAll("mainSize", 0, 6, m::mainSize, level -> main & 1 << level);
        dueAll("removalSize", 0, 6, m::removalSize, level -> removal & 1 << level);
    }

    private static int lowestBit(int count) {
        return count & -count;
    }

    private static void doublingSizes() {
        says("D0", "The keywords are stored in buckets of doubling sizes");
        for (int size = 0; size <= 40; size++) {
            dueSizes(crowd(size), size, 0);
        }
        says("D0", "The class reports matches in the stream, counts matches and overlaps");
        Run m = scanned("abab", "ab", "b");
        due("reports", m.reportCount(), 4);
        due("matches", m.matchCount(), 4);
        due("overlaps", m.overlappingPairs(), 2);
        due("the best cover", m.coverSize(), 2);
        due("the leftmost-longest matches", m.longestSize(), 2);
        due("sizes", m.mainSize(1), 2);
        due("prefixes", m.stateCount(1), 4);
        due("failure lengths", m.failureLength(0, 2), 1);

        says("D2", "There are two sets of buckets");
        Run two = with("a", "b", "c");
        due("remove", two.removeKeyword(2), 2);
        dueSizes(two, 3, 1);

        says("D2", "In each set the levels are 0 to 6, and each level holds one bucket or is empty");
        Run wide = widest();
        dueSizes(wide, WIDEST_MAIN, WIDEST_REMOVAL);
        due("above level 6", wide.mainSize(7), BAD_VALUE);
        due("below level 0", wide.mainSize(-1), BAD_VALUE);
        due("above level 6", wide.removalSize(7), BAD_VALUE);
        due("below level 0", wide.removalSize(-1), BAD_VALUE);

        says("D2", "The size of a bucket is the number of keywords in it");
        dueAll("mainSize", 0, 6, wide::mainSize, BucketEdges::keywordsAt);
    }

    private static int keywordsAt(int level) {
        Run m = widest();
        return count(0, WIDEST_MAIN - 1, k -> m.levelOf(k) == level);
    }

    private static void inserting() {
        says("D2", "To insert a keyword into a set, start with a new bucket that contains this keyword alone");
        Run one = with("a");
        due("level 0", one.levelOf(0), 0);
        dueSizes(one, 1, 0);
        Run third = with("a", "b", "c");
        due("the third one is alone", third.levelOf(2), 0);
        due("level 0", third.mainSize(0), 1);

        says("D2", "As long as the level holds a bucket, move its keywords into the new bucket");
        Run m = crowd(31);
        dueAll("the first sixteen", 0, 15, m::levelOf, k -> 4);
        dueAll("the next eight", 16, 23, m::levelOf, k -> 3);
        dueAll("the next four", 24, 27, m::levelOf, k -> 2);
        dueAll("the next two", 28, 29, m::levelOf, k -> 1);
        due("the last one", m.levelOf(30), 0);
        due("add", Check.add(m, "z", 1), 31);
        says("D2", "Then the new bucket is stored at that level");
        dueAll("all are in one bucket", 0, 31, m::levelOf, k -> 5);
        dueSizes(m, 32, 0);
        due("add", Check.add(m, "y", 1), 32);
        due("level 0 again", m.levelOf(32), 0);
        dueSizes(m, 33, 0);
    }

    private static void bothSets() {
        says("D2", "Adding a keyword inserts it into the main set");
        Run m = with("a");
        dueSizes(m, 1, 0);
        says("D2", "Removing a keyword inserts it into the removal set");
        for (int size = 1; size <= 19; size++) {
            Run removing = crowd(40);
            for (int k = 0; k < size; k++) {
                due("remove", removing.removeKeyword(39 - k), 39 - k);
            }
            dueSizes(removing, 40, size);
        }
        says("D2", "it stays in the main set as well");
        Run stays = with("a", "ab", "c");
        due("remove", stays.removeKeyword(1), 2);
        due("levelOf", stays.levelOf(1), 1);
        due("stateCount", stays.stateCount(1), 3);
        due("failureLength", stays.failureLength(1, 2), 0);
        due("mainSize", stays.mainSize(1), 2);
        due("scan", Check.scan(stays, "ab"), 1);
        due("currentDepth", stays.currentDepth(1), 2);
    }

    private static void rebuildPoint() {
        says("D2", "If, after a removal, twice the number of keywords in the removal set is at least");
        for (int size = 1; size <= 40; size++) {
            Run m = crowd(size);
            int removals = (size + 1) / 2;
            for (int k = 0; k < removals - 1; k++) {
                due("remove", m.removeKeyword(k), size - k - 1);
            }
            due("none at " + (removals - 1) + " of " + size, m.rebuildCount(), 0);
            dueSizes(m, size, removals - 1);
            due("remove", m.removeKeyword(removals - 1), size - removals);
            due("one at " + removals + " of " + size, m.rebuildCount(), 1);
            dueSizes(m, size - removals, 0);
        }
    }

    private static void rebuildOrder() {
        Run m = crowd(10);
        for (int k : new int[] {9, 1, 3, 5}) {
            due("remove", m.removeKeyword(k) >= 6 ? 1 : 0, 1);
        }
        due("add during this", Check.add(m, "z", 1), 10);
        due("no rebuild at 4 of 11", m.rebuildCount(), 0);
        due("remove", m.removeKeyword(7), 6);
        due("no rebuild at 5 of 11", m.rebuildCount(), 0);
        due("remove", m.removeKeyword(0), 5);
        due("a rebuild at 6 of 11", m.rebuildCount(), 1);
        dueAll("the first four numbers", 0, 8, m::levelOf, k -> k % 2 == 0 && k > 0 ? 2 : NONE);
        due("the last number", m.levelOf(10), 0);
        due("a removed one", m.levelOf(9), NONE);
        Run none = with("a");
        due("remove the only one", none.removeKeyword(0), 0);
        dueSizes(none, 0, 0);
        due("it is in no bucket", none.levelOf(0), NONE);
        due("a second life", Check.add(none, "a", 1), 1);
        dueSizes(none, 1, 0);
    }

    private static void widestSets() {
        Run m = widest();
        due("no rebuild", m.rebuildCount(), 0);
        due("level 6", m.mainSize(6), 64);
        due("the first 64", m.levelOf(63), 6);
        due("the next one", m.levelOf(64), 3);
        due("level 5 of the removal set", m.removalSize(5), 32);
        due("one removal more", m.removeKeyword(77), 39);
        due("a rebuild at 39 of 78", m.rebuildCount(), 1);
        dueSizes(m, 39, 0);
        due("the lowest live number", m.levelOf(38), 5);
        due("a removed one", m.levelOf(37), NONE);
    }

    private static void work() {
        says("D2", "The build work is a counter, initially 0");
        due("buildWork", new Run().buildWork(), 0);

        says("D2", "Whenever an insertion stores a bucket at a level, the counter grows by the size of that bucket");
        Run m = new Run();
        int want = 0;
        for (int i = 1; i <= 40; i++) {
            due("add", Check.add(m, pair(i), 1), i - 1);
            want += lowestBit(i);
            due("buildWork at " + i, m.buildWork(), want);
        }
        says("D2", "This holds for both sets and for the insertions of a rebuild");
        for (int i = 1; i <= 19; i++) {
            due("remove", m.removeKeyword(i - 1), 40 - i);
            want += lowestBit(i);
            due("buildWork at the removal " + i, m.buildWork(), want);
        }
        due("remove", m.removeKeyword(19), 20);
        want += lowestBit(20);
        for (int i = 1; i <= 20; i++) {
            want += lowestBit(i);
        }
        due("buildWork after the rebuild", m.buildWork(), want);
        Run last = with("a");
        due("remove", last.removeKeyword(0), 0);
        due("a rebuild of none costs nothing", last.buildWork(), 2);
    }

    private static void dueLevels(String call, IntUnaryOperator got) {
        due(call + " 7", got.applyAsInt(7), BAD_VALUE);
        due(call + " 32", got.applyAsInt(32), BAD_VALUE);
        due(call + " 33", got.applyAsInt(33), BAD_VALUE);
        dueBelow(call, got, BAD_VALUE);
        dueAbove(call, got, BAD_VALUE);
    }

    private static void sizes() {
        Run m = widest();
        says("P13", "Returns the size of a bucket of the main set", "`level`: level, 0 to 6");
        due("level 6", m.mainSize(6), 64);
        says("P13", "Returns the size, 0 if the level is empty");
        dueAll("mainSize", 0, 6, m::mainSize, level -> WIDEST_MAIN & 1 << level);
        dueAll("of a new object", 0, 6, new Run()::mainSize, level -> 0);
        says("P13", "BAD_VALUE if the level is out of range");
        dueLevels("mainSize", m::mainSize);
        dueLevels("mainSize of a new object", new Run()::mainSize);

        says("P14", "Returns the size of a bucket of the removal set", "`level`: level, 0 to 6");
        due("level 5", m.removalSize(5), 32);
        due("level 6", m.removalSize(6), 0);
        says("P14", "Returns the size, 0 if the level is empty");
        dueAll("removalSize", 0, 6, m::removalSize, level -> WIDEST_REMOVAL & 1 << level);
        dueAll("of a new object", 0, 6, new Run()::removalSize, level -> 0);
        says("P14", "BAD_VALUE if the level is out of range");
        dueLevels("removalSize", m::removalSize);
        dueLevels("removalSize of a new object", new Run()::removalSize);
    }

    private static void states() {
        says("P15", "Returns the number of states of the automaton of a bucket of the main set",
                "Returns the number of states;");
        due("one byte", with("a").stateCount(0), 2);
        due("sixteen bytes", with(SIXTEEN).stateCount(0), 17);
        due("nothing in common", with("a", "b").stateCount(1), 3);
        due("a prefix of another", with("abc", "ab").stateCount(1), 4);
        due("the other way round", with("ab", "abc").stateCount(1), 4);
        due("all but the last byte", with("abc", "abd").stateCount(1), 5);
        due("the first byte differs", with("abc", "bbc").stateCount(1), 7);
        due("only its own bucket", with("abc", "abd", "ab").stateCount(0), 3);
        Run m = with("ab", "cd", "ef", "gh", "ij", "kl");
        due("remove", m.removeKeyword(4), 5);
        due("the same one", Check.add(m, "ij", 1), 6);
        due("another one", Check.add(m, "i", 1), 7);
        due("a removed one and an equal one", m.stateCount(3), 13);
        Run all = new Run();
        for (int n = 1; n <= 16; n++) {
            due("add", Check.add(all, "a".repeat(n), 1), n - 1);
        }
        due("all prefixes of one", all.stateCount(4), 17);

        says("P15", "NONE if the level is empty");
        dueAll("stateCount", 0, 6, with("a", "b")::stateCount, level -> level == 1 ? 3 : NONE);
        dueAll("of a new object", 0, 6, new Run()::stateCount, level -> NONE);
        Run gone = with("a");
        due("remove", gone.removeKeyword(0), 0);
        due("after a rebuild", gone.stateCount(0), NONE);
        says("P15", "BAD_VALUE if the level is out of range", "`level`: level, 0 to 6");
        dueLevels("stateCount", m::stateCount);
        dueLevels("stateCount of a new object", new Run()::stateCount);
    }

    /** Sixty-four keywords of sixteen bytes that share nothing but the empty prefix, and more at level 3. */
    private static void mostStates() {
        says("P15", "the number of different prefixes of its keywords, including the empty prefix");
        Run m = new Run();
        int removed = 0;
        int given = 0;
        while (given < 72) {
            if (given - removed == 40) {
                due("remove", m.removeKeyword(removed), 39);
                removed++;
            }
            due("add", Check.add(m, (char) (33 + given) + "k".repeat(15), 1), given);
            given++;
        }
        due("no rebuild", m.rebuildCount(), 0);
        due("level 6", m.stateCount(6), 64 * 16 + 1);
        due("level 3", m.stateCount(3), 8 * 16 + 1);
        due("scan", Check.scan(m, (char) (33 + 63) + "k".repeat(15)), 1);
        due("currentDepth", m.currentDepth(6), 16);
        due("currentDepth", m.currentDepth(3), 0);
    }

    private static void depths() {
        says("P16", "Returns the depth of the current state of the automaton of a bucket of the main set",
                "Returns the depth, 0 to 16;");
        Run m = with(SIXTEEN);
        due("an empty stream", m.currentDepth(0), 0);
        for (int n = 1; n <= 16; n++) {
            due("scan", Check.scan(m, SIXTEEN.substring(n - 1, n)), n / 16);
            due("after " + n, m.currentDepth(0), n);
        }
        due("scan", Check.scan(m, "q"), 0);
        due("behind the end", m.currentDepth(0), 0);
        due("scan", Check.scan(m, "ab"), 0);
        due("a new beginning", m.currentDepth(0), 2);
        Run run = with("a".repeat(16));
        due("scan", Check.scan(run, "a".repeat(15)), 0);
        due("fifteen", run.currentDepth(0), 15);
        due("scan", Check.scan(run, "a".repeat(20)), 20);
        due("no more than sixteen", run.currentDepth(0), 16);
        due("the longest of several", scanned("xab", "b", "ab", "xa", "xaby").currentDepth(2), 3);
        due("a whole stream", scanned("a", "ab").currentDepth(0), 1);
        Run full = with("xy");
        scanAll(full, "x".repeat(600));
        due("at the end of a full stream", full.currentDepth(0), 1);

        says("P16", "NONE if the level is empty");
        dueAll("currentDepth", 0, 6, scanned("a", "a", "b")::currentDepth, level -> level == 1 ? 1 : NONE);
        dueAll("of a new object", 0, 6, new Run()::currentDepth, level -> NONE);
        says("P16", "BAD_VALUE if the level is out of range", "`level`: level, 0 to 6");
        dueLevels("currentDepth", m::currentDepth);
        dueLevels("currentDepth of a new object", new Run()::currentDepth);
    }

    private static void depthsAfterChanges() {
        says("P16", "the length of the longest suffix of the stream that is a prefix of a keyword in the bucket");
        Run m = scanned("xyab");
        due("added behind the stream", Check.add(m, "abc", 1), 0);
        due("currentDepth", m.currentDepth(0), 2);
        due("add", Check.add(m, "yabx", 1), 1);
        due("in the new bucket", m.currentDepth(1), 3);
        due("add", Check.add(m, "b", 1), 2);
        due("another bucket", m.currentDepth(0), 1);
        due("remove", m.removeKeyword(1), 2);
        due("a removed one counts", m.currentDepth(1), 3);
        due("remove", m.removeKeyword(2), 1);
        due("after the rebuild", m.currentDepth(0), 2);
        due("reset", m.resetStream(), 4);
        due("an empty stream", m.currentDepth(0), 0);
    }

    private static void levels() {
        Run m = widest();
        says("P17", "Returns the level of the bucket of the main set that contains a keyword", "Returns the level;");
        int[] ends = {64, 72, 76, 78};
        int[] wanted = {6, 3, 2, 1};
        for (int i = 0; i < ends.length; i++) {
            due("the last one of level " + wanted[i], m.levelOf(ends[i] - 1), wanted[i]);
            due("the first one of level " + wanted[i], m.levelOf(i == 0 ? 0 : ends[i - 1]), wanted[i]);
        }
        due("the newest", with("a", "b", "c").levelOf(2), 0);
        says("P17", "NONE if the keyword is in no bucket of the main set");
        Run gone = with("a", "b");
        due("remove", gone.removeKeyword(0), 1);
        due("a removed one after the rebuild", gone.levelOf(0), NONE);
        due("a live one", gone.levelOf(1), 0);
        says("P17", "NO_SUCH if the number has not been given out", "`keyword`: number of a keyword");
        dueNoSuch("levelOf", 78, m::levelOf);
        dueNoSuch("levelOf", 2, gone::levelOf);
        due("no keywords", new Run().levelOf(0), NO_SUCH);
    }

    private static void failureLengths() {
        says("P18", "Returns the failure length of a prefix of a keyword");
        Run m = with("abab", "bab", "ababx", "b");
        int[] first = {0, 1, 2, 3};
        dueAll("abab", 1, 4, n -> m.failureLength(0, n), n -> first[n - 1]);
        int[] second = {0, 1, 2};
        dueAll("bab", 1, 3, n -> m.failureLength(1, n), n -> second[n - 1]);
        due("ababx", m.failureLength(2, 5), 0);
        due("b", m.failureLength(3, 1), 0);
        Run one = with("ab", "xa", "xab");
        due("only the same bucket", one.failureLength(2, 3), 0);
        due("the same bucket", one.failureLength(1, 2), 1);
        due("add", Check.add(one, "q", 1), 3);
        due("now the same bucket", one.failureLength(2, 3), 2);
        due("remove", one.removeKeyword(0), 3);
        due("a removed one counts", one.failureLength(2, 3), 2);
        due("of a removed one", one.failureLength(0, 2), 0);

        says("P18", "Returns the failure length, 0 to length - 1");
        Run run = with("a".repeat(16), "b");
        dueAll("a row of equal bytes", 1, 16, n -> run.failureLength(0, n), n -> n - 1);
        Run none = with(SIXTEEN);
        dueAll("sixteen different bytes", 1, 16, n -> none.failureLength(0, n), n -> 0);
        due("a whole keyword", with("xa", "a").failureLength(0, 2), 1);
    }

    private static void failureRanges() {
        Run m = with("a", SIXTEEN, "bc");
        says("P18", "BAD_VALUE if the length is out of range", "`length`: length of the prefix, 1 to the length");
        due("0", m.failureLength(1, 0), BAD_VALUE);
        due("1", m.failureLength(1, 1), 0);
        due("16", m.failureLength(1, 16), 0);
        due("17", m.failureLength(1, 17), BAD_VALUE);
        due("1 of 1", m.failureLength(0, 1), 0);
        due("2 of 1", m.failureLength(0, 2), BAD_VALUE);
        due("2 of 2", m.failureLength(2, 2), 0);
        due("3 of 2", m.failureLength(2, 3), BAD_VALUE);
        dueBelow("length", n -> m.failureLength(1, n), BAD_VALUE);
        dueAbove("length", n -> m.failureLength(1, n), BAD_VALUE);
        says("P18", "NO_SUCH if the number has not been given out", "`keyword`: number of a keyword");
        dueNoSuch("failureLength", 3, k -> m.failureLength(k, 1));
        dueNoSuch("before BAD_VALUE", 3, k -> m.failureLength(k, 0));
        says("P18", "NONE if the keyword is in no bucket of the main set");
        due("remove", m.removeKeyword(1) + m.removeKeyword(2), 3);
        due("rebuilt", m.rebuildCount(), 1);
        dueAll("a removed one", 1, 16, n -> m.failureLength(1, n), n -> NONE);
        due("BAD_VALUE before NONE", m.failureLength(1, 0), BAD_VALUE);
        due("BAD_VALUE before NONE", m.failureLength(1, 17), BAD_VALUE);
        due("a live one", m.failureLength(0, 1), 0);
    }

    private static void countingWork() {
        says("P19", "Returns the build work", "Returns the counter");
        Run m = with("a", "b", "c");
        due("1 + 2 + 1", m.buildWork(), 4);
        due("it is only read", m.buildWork(), 4);
        due("scan", Check.scan(m, "abc"), 3);
        due("reset", m.resetStream(), 3);
        due("the stream costs nothing", m.buildWork(), 4);
        due("DUPLICATE", Check.add(m, "a", 1), DUPLICATE);
        due("refused", m.removeKeyword(3), NO_SUCH);
        due("a refused call costs nothing", m.buildWork(), 4);
        due("planning", m.plannedWork(40) > 0 ? 1 : 0, 1);
        due("planning costs nothing", m.buildWork(), 4);
    }

    private static void plannedWork() {
        says("P20", "Returns by how much the build work would grow if the given number of keywords were added now",
                "Returns the growth;");
        for (int size = 0; size <= 40; size++) {
            Run m = crowd(size);
            int growth = 0;
            for (int count = 0; size + count <= 40; count++) {
                due(count + " to " + size, m.plannedWork(count), growth);
                growth += lowestBit(size + count + 1);
            }
        }
        Run grown = crowd(13);
        int before = grown.buildWork();
        int planned = grown.plannedWork(5);
        for (int i = 13; i < 18; i++) {
            due("add", Check.add(grown, pair(i), 1), i);
        }
        due("what it grew by", grown.buildWork() - before, planned);
        Run removed = crowd(7);
        due("remove", removed.removeKeyword(0), 6);
        due("removed ones are still in the main set", removed.plannedWork(1), 8);
        says("P20", "BAD_VALUE if count is out of range", "`count`: number of keywords, 0 to 40");
        Run m = crowd(3);
        due("0", m.plannedWork(0), 0);
        due("1", m.plannedWork(1), 4);
        due("40", m.plannedWork(40) > 0 ? 1 : 0, 1);
        due("41", m.plannedWork(41), BAD_VALUE);
        dueBelow("count", m::plannedWork, BAD_VALUE);
        dueAbove("count", m::plannedWork, BAD_VALUE);
    }

    private static int growth(int from, int count) {
        int sum = 0;
        for (int i = from + 1; i <= from + count; i++) {
            sum += lowestBit(i);
        }
        return sum;
    }

    private static void plannedLimits() {
        says("P20", "The limits on live keywords and on numbers are ignored");
        dueAll("40 live ones", 0, 40, crowd(40)::plannedWork, count -> growth(40, count));
        dueAll("the widest set", 0, 40, widest()::plannedWork, count -> growth(WIDEST_MAIN, count));
        dueAll("no number left", 0, 40, given(120, 0)::plannedWork, count -> growth(0, count));
    }

    private static void rebuilds() {
        says("P21", "Returns the number of rebuilds.", "Returns the number of rebuilds since the matcher was created");
        due("none", new Run().rebuildCount(), 0);
        due("one for each removal of the only one", given(120, 0).rebuildCount(), 120);
        Run m = with("a", "b", "c", "d");
        due("remove", m.removeKeyword(0), 3);
        due("1 of 4", m.rebuildCount(), 0);
        due("remove", m.removeKeyword(1), 2);
        due("2 of 4", m.rebuildCount(), 1);
        due("remove", m.removeKeyword(2), 1);
        due("1 of 2", m.rebuildCount(), 2);
        due("remove", m.removeKeyword(3), 0);
        due("1 of 1", m.rebuildCount(), 3);
        due("refused", m.removeKeyword(3), NO_SUCH);
        due("no more", m.rebuildCount(), 3);
        due("scan", Check.scan(m, "a"), 0);
        due("reset", m.resetStream(), 1);
        due("the stream does not matter", m.rebuildCount(), 3);
    }
}
