import java.util.Arrays;

/**
 * A multi-pattern string matcher for a set of keywords that changes while a byte stream is scanned.
 *
 * <p>All rows are made in the constructor and used again, so that no later call makes an object.
 */
public final class KeywordMatcher {
    public static final int NONE = -1;
    public static final int NO_SUCH = -2;
    public static final int BAD_VALUE = -3;
    public static final int BAD_TEXT = -4;
    public static final int DUPLICATE = -5;
    public static final int FULL = -6;
    public static final int BUSY = -7;

    private static final int BUFFER_BYTES = 200;
    private static final int APPENDED_BYTES = 20;
    private static final int STREAM_BYTES = 600;
    private static final int STORED_REPORTS = 300;
    private static final int LONGEST = 16;
    private static final int LOWEST_BYTE = 33;
    private static final int HIGHEST_BYTE = 126;
    private static final int HIGHEST_WEIGHT = 99;
    private static final int NUMBERS = 120;
    private static final int MOST_LIVE = 40;
    private static final int MOST_PLANNED = 40;
    private static final int MOST_MISMATCHES = 3;
    private static final int LEVELS = 7;
    private static final int BUCKET_PLACES = (1 << LEVELS) - 1;

    // A cover has at most 600 matches and a weight of at most 600 * 99. So one unit of weight is worth
    // more than all matches together, and one byte more than all weights together: comparing the sums
    // compares bytes first, then weights, then the numbers of matches.
    private static final long BYTE_WORTH = 1L << 26;
    private static final long WEIGHT_WORTH = 1L << 10;

    private final Folding folding;
    private final ByteRow buffer;
    private final Keywords keywords;
    private final BucketSet mainSet;
    private final BucketSet removalSet;
    private final Superstring superstring;
    private final ByteRow stream;
    private final MatchTable matches;
    private final MatchList reports;
    private final MatchList chosen;
    private final int[] depths;
    private final long[] bestFrom;
    private int work;
    private int rebuilds;
    private int reported;

    public KeywordMatcher() {
        folding = new Folding();
        buffer = new ByteRow(BUFFER_BYTES);
        keywords = new Keywords(folding);
        mainSet = new BucketSet();
        removalSet = new BucketSet();
        superstring = new Superstring(folding);
        stream = new ByteRow(STREAM_BYTES);
        matches = new MatchTable();
        reports = new MatchList(STORED_REPORTS);
        chosen = new MatchList(STREAM_BYTES);
        depths = new int[STREAM_BYTES];
        bestFrom = new long[STREAM_BYTES + 1];
        work = 0;
        rebuilds = 0;
        reported = 0;
    }

    // ---- text buffer

    public int appendBytes(int a, int b, int c, int d, int e) {
        if (buffer.length > BUFFER_BYTES - APPENDED_BYTES) {
            return FULL;
        }
        appendFour(a);
        appendFour(b);
        appendFour(c);
        appendFour(d);
        appendFour(e);
        return buffer.length;
    }

    private void appendFour(int four) {
        for (int shift = 24; shift >= 0; shift -= 8) {
            buffer.append(four >>> shift & 255);
        }
    }

    public int bufferLength() {
        return buffer.length;
    }

    private boolean isBufferPart(int n) {
        return n >= 0 && n <= buffer.length;
    }

    // ---- keywords

    public int addKeyword(int n, int weight) {
        if (!isBufferPart(n) || weight < 1 || weight > HIGHEST_WEIGHT) {
            return BAD_VALUE;
        }
        int answer = refusalOf(n);
        if (answer == NONE) {
            answer = keywords.give(buffer, n, weight);
            work += mainSet.insert(answer);
            noteAllMatchesOf(answer);
            superstring.forget();
        }
        buffer.clear();
        return answer;
    }

    private int refusalOf(int n) {
        if (!isKeywordText(n)) {
            return BAD_TEXT;
        }
        if (keywords.findAlive(buffer, n) != NONE) {
            return DUPLICATE;
        }
        if (keywords.alive >= MOST_LIVE || keywords.given >= NUMBERS) {
            return FULL;
        }
        return NONE;
    }

    private boolean isKeywordText(int n) {
        if (n < 1 || n > LONGEST) {
            return false;
        }
        for (int i = 0; i < n; i++) {
            int sign = buffer.at(i);
            if (sign < LOWEST_BYTE || sign > HIGHEST_BYTE) {
                return false;
            }
        }
        return true;
    }

    public int removeKeyword(int keyword) {
        if (!keywords.isAlive(keyword)) {
            return NO_SUCH;
        }
        dropAllMatchesOf(keyword);
        keywords.retire(keyword);
        superstring.forget();
        work += removalSet.insert(keyword);
        if (2 * removalSet.count >= mainSet.count) {
            rebuild();
        }
        return keywords.alive;
    }

    private void rebuild() {
        rebuilds++;
        mainSet.clear();
        removalSet.clear();
        for (int keyword = 0; keyword < keywords.given; keyword++) {
            if (keywords.isAlive(keyword)) {
                work += mainSet.insert(keyword);
            }
        }
    }

    public int findKeyword(int n) {
        if (!isBufferPart(n)) {
            return BAD_VALUE;
        }
        int found = keywords.findAlive(buffer, n);
        buffer.clear();
        return found;
    }

    public int keywordLength(int keyword) {
        return keywords.isGiven(keyword) ? keywords.lengthOf(keyword) : NO_SUCH;
    }

    public int keywordByte(int keyword, int index) {
        if (!keywords.isGiven(keyword)) {
            return NO_SUCH;
        }
        return index < 0 ? BAD_VALUE : keywords.byteOf(keyword, index);
    }

    public int keywordWeight(int keyword) {
        return keywords.isGiven(keyword) ? keywords.weightOf(keyword) : NO_SUCH;
    }

    public int isLive(int keyword) {
        if (!keywords.isGiven(keyword)) {
            return NO_SUCH;
        }
        return keywords.isAlive(keyword) ? 1 : 0;
    }

    public int liveCount() {
        return keywords.alive;
    }

    public int setFolding(boolean on) {
        if (keywords.alive > 0 || stream.length > 0) {
            return BUSY;
        }
        int before = folding.on ? 1 : 0;
        folding.on = on;
        return before;
    }

    // ---- buckets

    public int mainSize(int level) {
        return isLevel(level) ? mainSet.sizeAt(level) : BAD_VALUE;
    }

    public int removalSize(int level) {
        return isLevel(level) ? removalSet.sizeAt(level) : BAD_VALUE;
    }

    private static boolean isLevel(int level) {
        return level >= 0 && level < LEVELS;
    }

    public int stateCount(int level) {
        if (!isLevel(level)) {
            return BAD_VALUE;
        }
        int size = mainSet.sizeAt(level);
        if (size == 0) {
            return NONE;
        }
        int states = 1;
        int first = mainSet.firstAt(level);
        for (int place = first; place < first + size; place++) {
            states += newPrefixes(first, place);
        }
        return states;
    }

    // Prefixes that two keywords share are shared up to one length, so the longest one counts them all.
    private int newPrefixes(int first, int place) {
        int keyword = mainSet.memberAt(place);
        int shared = 0;
        for (int earlier = first; earlier < place; earlier++) {
            shared = Math.max(shared, keywords.commonPrefix(keyword, mainSet.memberAt(earlier)));
        }
        return keywords.lengthOf(keyword) - shared;
    }

    public int currentDepth(int level) {
        if (!isLevel(level)) {
            return BAD_VALUE;
        }
        if (mainSet.sizeAt(level) == 0) {
            return NONE;
        }
        return longestPrefixBefore(level, stream.bytes, stream.length, Math.min(LONGEST, stream.length));
    }

    public int levelOf(int keyword) {
        return keywords.isGiven(keyword) ? mainSet.levelWith(keyword) : NO_SUCH;
    }

    public int failureLength(int keyword, int length) {
        if (!keywords.isGiven(keyword)) {
            return NO_SUCH;
        }
        if (length < 1 || length > keywords.lengthOf(keyword)) {
            return BAD_VALUE;
        }
        int level = mainSet.levelWith(keyword);
        if (level == NONE) {
            return NONE;
        }
        return longestPrefixBefore(level, keywords.bytes, keywords.firstByteOf(keyword) + length, length - 1);
    }

    private int longestPrefixBefore(int level, int[] text, int end, int most) {
        for (int n = most; n > 0; n--) {
            if (isPrefixInBucket(level, text, end - n, n)) {
                return n;
            }
        }
        return 0;
    }

    private boolean isPrefixInBucket(int level, int[] text, int from, int n) {
        int first = mainSet.firstAt(level);
        int behind = first + mainSet.sizeAt(level);
        for (int place = first; place < behind; place++) {
            if (keywords.startsWith(mainSet.memberAt(place), text, from, n)) {
                return true;
            }
        }
        return false;
    }

    public int buildWork() {
        return work;
    }

    public int plannedWork(int count) {
        if (count < 0 || count > MOST_PLANNED) {
            return BAD_VALUE;
        }
        int growth = 0;
        for (int added = 1; added <= count; added++) {
            growth += BucketSet.storedSize(mainSet.count + added);
        }
        return growth;
    }

    public int rebuildCount() {
        return rebuilds;
    }

    // ---- stream

    public int scan(int n) {
        if (!isBufferPart(n)) {
            return BAD_VALUE;
        }
        boolean fits = n <= STREAM_BYTES - stream.length;
        int before = reported;
        for (int i = 0; i < n && fits; i++) {
            stream.append(buffer.at(i));
            noteMatchesAtEnd();
            reportMatchesAtEnd();
        }
        buffer.clear();
        return fits ? reported - before : FULL;
    }

    private void noteMatchesAtEnd() {
        for (int keyword = 0; keyword < keywords.given; keyword++) {
            if (keywords.isAlive(keyword)) {
                noteMatch(keyword, stream.length - keywords.lengthOf(keyword));
            }
        }
    }

    private void noteAllMatchesOf(int keyword) {
        for (int start = 0; start < stream.length; start++) {
            noteMatch(keyword, start);
        }
    }

    private void noteMatch(int keyword, int start) {
        if (keywords.standsAt(keyword, stream, start)) {
            matches.put(start, keywords.lengthOf(keyword), keyword);
        }
    }

    private void dropAllMatchesOf(int keyword) {
        int length = keywords.lengthOf(keyword);
        for (int start = 0; start < stream.length; start++) {
            if (matches.at(start, length) == keyword) {
                matches.put(start, length, NONE);
            }
        }
    }

    private void reportMatchesAtEnd() {
        for (int length = LONGEST; length > 0; length--) {
            int keyword = matches.at(stream.length - length, length);
            if (keyword != NONE) {
                reported++;
                reports.add(stream.length - 1, keyword);
            }
        }
    }

    public int resetStream() {
        int before = stream.length;
        stream.clear();
        matches.clear();
        reports.clear();
        reported = 0;
        return before;
    }

    public int streamLength() {
        return stream.length;
    }

    public int streamByte(int position) {
        return position < 0 ? BAD_VALUE : stream.at(position);
    }

    public int reportCount() {
        return reported;
    }

    public int reportEnd(int index) {
        return index < 0 ? BAD_VALUE : reports.positionAt(index);
    }

    public int reportKeyword(int index) {
        return index < 0 ? BAD_VALUE : reports.keywordAt(index);
    }

    // ---- matches

    public int matchCount() {
        int count = 0;
        for (int start = 0; start < stream.length; start++) {
            count += matches.countFrom(start);
        }
        return count;
    }

    public int matchCountOf(int keyword) {
        if (!keywords.isAlive(keyword)) {
            return NO_SUCH;
        }
        int length = keywords.lengthOf(keyword);
        int count = 0;
        for (int start = 0; start < stream.length; start++) {
            if (matches.at(start, length) == keyword) {
                count++;
            }
        }
        return count;
    }

    public int nextMatch(int keyword, int position) {
        if (!keywords.isAlive(keyword)) {
            return NO_SUCH;
        }
        if (position < 0) {
            return BAD_VALUE;
        }
        int length = keywords.lengthOf(keyword);
        for (int start = position; start < stream.length; start++) {
            if (matches.at(start, length) == keyword) {
                return start;
            }
        }
        return NONE;
    }

    // Each pair is counted at the first byte that both have, which is the later one of their starts.
    public int overlappingPairs() {
        measureDepths();
        int pairs = 0;
        for (int position = 0; position < stream.length; position++) {
            int starting = matches.countFrom(position);
            int running = depths[position] - starting;
            pairs += starting * running + starting * (starting - 1) / 2;
        }
        return pairs;
    }

    public int maximumDepth() {
        measureDepths();
        int most = 0;
        for (int position = 0; position < stream.length; position++) {
            most = Math.max(most, depths[position]);
        }
        return most;
    }

    private void measureDepths() {
        int depth = 0;
        for (int position = 0; position < stream.length; position++) {
            depth += matches.countFrom(position);
            depths[position] = depth;
            depth -= matches.countTo(position);
        }
    }

    public int containedMatches() {
        int count = 0;
        int reach = NONE;
        for (int start = 0; start < stream.length; start++) {
            count += containedFrom(start, reach);
            reach = Math.max(reach, start + matches.longestFrom(start) - 1);
        }
        return count;
    }

    // The reach is the last byte of all matches that start earlier: one of those contains what ends by then.
    private int containedFrom(int start, int reach) {
        int longest = matches.longestFrom(start);
        int count = 0;
        for (int length = 1; length <= longest; length++) {
            boolean contained = length < longest || start + length - 1 <= reach;
            if (contained && matches.at(start, length) != NONE) {
                count++;
            }
        }
        return count;
    }

    public int gapLength() {
        measureDepths();
        int longest = 0;
        int run = 0;
        for (int position = 0; position < stream.length; position++) {
            run = depths[position] == 0 ? run + 1 : 0;
            longest = Math.max(longest, run);
        }
        return longest;
    }

    public int gapStart() {
        int longest = gapLength();
        int run = 0;
        for (int position = 0; position < stream.length; position++) {
            run = depths[position] == 0 ? run + 1 : 0;
            if (run > 0 && run == longest) {
                return position - run + 1;
            }
        }
        return NONE;
    }

    public int overlapLength(int first, int second) {
        if (!keywords.isGiven(first) || !keywords.isGiven(second)) {
            return NO_SUCH;
        }
        int end = keywords.firstByteOf(first) + keywords.lengthOf(first);
        int most = Math.min(keywords.lengthOf(first), keywords.lengthOf(second)) - 1;
        return folding.overlap(keywords.bytes, end, keywords.bytes, keywords.firstByteOf(second), most);
    }

    public int nearMatchCount(int keyword, int mismatches) {
        if (!keywords.isAlive(keyword)) {
            return NO_SUCH;
        }
        if (mismatches < 0 || mismatches > MOST_MISMATCHES) {
            return BAD_VALUE;
        }
        int count = 0;
        int last = stream.length - keywords.lengthOf(keyword);
        for (int start = 0; start <= last; start++) {
            if (keywords.mismatchesAt(keyword, stream, start) <= mismatches) {
                count++;
            }
        }
        return count;
    }

    public int fewestMismatches(int keyword) {
        if (!keywords.isAlive(keyword)) {
            return NO_SUCH;
        }
        int start = nearestPlace(keyword);
        return start == NONE ? NONE : keywords.mismatchesAt(keyword, stream, start);
    }

    public int nearestStart(int keyword) {
        return keywords.isAlive(keyword) ? nearestPlace(keyword) : NO_SUCH;
    }

    private int nearestPlace(int keyword) {
        int nearest = NONE;
        int fewest = LONGEST + 1;
        int last = stream.length - keywords.lengthOf(keyword);
        for (int start = 0; start <= last; start++) {
            int mismatches = keywords.mismatchesAt(keyword, stream, start);
            if (mismatches < fewest) {
                fewest = mismatches;
                nearest = start;
            }
        }
        return nearest;
    }

    // ---- common superstring

    public int superstringLength() {
        superstring.build(keywords);
        return superstring.area.length;
    }

    public int superstringByte(int index) {
        if (index < 0) {
            return BAD_VALUE;
        }
        superstring.build(keywords);
        return superstring.area.at(index);
    }

    public int superstringStart(int keyword) {
        if (!keywords.isAlive(keyword)) {
            return NO_SUCH;
        }
        superstring.build(keywords);
        for (int start = 0; start < superstring.area.length; start++) {
            if (keywords.standsAt(keyword, superstring.area, start)) {
                return start;
            }
        }
        return NONE;
    }

    // ---- cover and leftmost-longest matches

    public int coveredBytes() {
        chooseCover();
        int covered = 0;
        for (int i = 0; i < chosen.size; i++) {
            covered += keywords.lengthOf(chosen.keywordAt(i));
        }
        return covered;
    }

    public int coverWeight() {
        chooseCover();
        int weight = 0;
        for (int i = 0; i < chosen.size; i++) {
            weight += keywords.weightOf(chosen.keywordAt(i));
        }
        return weight;
    }

    public int coverSize() {
        chooseCover();
        return chosen.size;
    }

    public int coverStart(int index) {
        if (index < 0) {
            return BAD_VALUE;
        }
        chooseCover();
        return chosen.positionAt(index);
    }

    public int coverKeyword(int index) {
        if (index < 0) {
            return BAD_VALUE;
        }
        chooseCover();
        return chosen.keywordAt(index);
    }

    private void chooseCover() {
        measureCovers();
        chosen.clear();
        int free = 0;
        for (int start = 0; start < stream.length; start++) {
            int keyword = start < free ? NONE : lowestBestFrom(start);
            if (keyword != NONE) {
                chosen.add(start, keyword);
                free = start + keywords.lengthOf(keyword);
            }
        }
    }

    // What a cover is worth depends only on what stands behind a position, so it is found from the end.
    private void measureCovers() {
        bestFrom[stream.length] = 0;
        for (int start = stream.length - 1; start >= 0; start--) {
            bestFrom[start] = bestFrom[start + 1];
            int longest = matches.longestFrom(start);
            for (int length = 1; length <= longest; length++) {
                bestFrom[start] = Math.max(bestFrom[start], worthFrom(start, length));
            }
        }
    }

    private int lowestBestFrom(int start) {
        int lowest = NONE;
        int longest = matches.longestFrom(start);
        for (int length = 1; length <= longest; length++) {
            if (worthFrom(start, length) == bestFrom[start]) {
                int keyword = matches.at(start, length);
                lowest = lowest == NONE ? keyword : Math.min(lowest, keyword);
            }
        }
        return lowest;
    }

    private long worthFrom(int start, int length) {
        int keyword = matches.at(start, length);
        if (keyword == NONE || start + length > stream.length) {
            return NONE;
        }
        return length * BYTE_WORTH + keywords.weightOf(keyword) * WEIGHT_WORTH - 1 + bestFrom[start + length];
    }

    public int longestSize() {
        chooseLongest();
        return chosen.size;
    }

    public int longestStart(int index) {
        if (index < 0) {
            return BAD_VALUE;
        }
        chooseLongest();
        return chosen.positionAt(index);
    }

    public int longestKeyword(int index) {
        if (index < 0) {
            return BAD_VALUE;
        }
        chooseLongest();
        return chosen.keywordAt(index);
    }

    private void chooseLongest() {
        chosen.clear();
        int free = 0;
        for (int start = 0; start < stream.length; start++) {
            int length = start < free ? 0 : matches.longestFrom(start);
            if (length > 0) {
                chosen.add(start, matches.at(start, length));
                free = start + length;
            }
        }
    }

    /** The folding setting, and all comparisons of bytes, which must heed it. */
    private static final class Folding {
        boolean on;

        int fold(int sign) {
            return on && sign >= 'A' && sign <= 'Z' ? sign - 'A' + 'a' : sign;
        }

        int commonPrefix(int[] a, int aFrom, int[] b, int bFrom, int most) {
            if (aFrom < 0 || bFrom < 0) {
                return 0;
            }
            int bound = Math.min(most, Math.min(a.length - aFrom, b.length - bFrom));
            for (int i = 0; i < bound; i++) {
                if (fold(a[aFrom + i]) != fold(b[bFrom + i])) {
                    return i;
                }
            }
            return Math.max(bound, 0);
        }

        boolean same(int[] a, int aFrom, int[] b, int bFrom, int count) {
            return commonPrefix(a, aFrom, b, bFrom, count) == count;
        }

        /** The longest run of at most the given length that ends before aEnd and begins at bFrom. */
        int overlap(int[] a, int aEnd, int[] b, int bFrom, int most) {
            for (int n = most; n > 0; n--) {
                if (commonPrefix(a, aEnd - n, b, bFrom, n) == n) {
                    return n;
                }
            }
            return 0;
        }
    }

    /** A row of bytes that grows up to a fixed capacity. */
    private static final class ByteRow {
        final int[] bytes;
        int length;

        ByteRow(int capacity) {
            bytes = new int[Math.max(capacity, 0)];
            length = 0;
        }

        void clear() {
            length = 0;
        }

        void append(int sign) {
            if (length < bytes.length) {
                bytes[length] = sign;
                length++;
            }
        }

        void appendRun(int[] source, int from, int count) {
            if (from < 0 || count < 0 || count > source.length - from || count > bytes.length - length) {
                return;
            }
            System.arraycopy(source, from, bytes, length, count);
            length += count;
        }

        int at(int index) {
            return index >= 0 && index < length ? bytes[index] : NONE;
        }
    }

    /** All keywords that were ever added, by their numbers. */
    private static final class Keywords {
        final Folding folding;
        final int[] bytes;
        final int[] lengths;
        final int[] weights;
        final boolean[] lives;
        int given;
        int alive;

        Keywords(Folding setting) {
            folding = setting;
            bytes = new int[NUMBERS * LONGEST];
            lengths = new int[NUMBERS];
            weights = new int[NUMBERS];
            lives = new boolean[NUMBERS];
            given = 0;
            alive = 0;
        }

        int give(ByteRow text, int n, int weight) {
            if (given >= NUMBERS || n < 0 || n > LONGEST) {
                return NONE;
            }
            int keyword = given;
            for (int i = 0; i < n; i++) {
                bytes[firstByteOf(keyword) + i] = text.at(i);
            }
            lengths[keyword] = n;
            weights[keyword] = weight;
            lives[keyword] = true;
            given++;
            alive++;
            return keyword;
        }

        void retire(int keyword) {
            if (isAlive(keyword)) {
                lives[keyword] = false;
                alive--;
            }
        }

        boolean isGiven(int keyword) {
            return keyword >= 0 && keyword < given;
        }

        boolean isAlive(int keyword) {
            return isGiven(keyword) && lives[keyword];
        }

        int lengthOf(int keyword) {
            return isGiven(keyword) ? lengths[keyword] : 0;
        }

        int weightOf(int keyword) {
            return isGiven(keyword) ? weights[keyword] : 0;
        }

        int firstByteOf(int keyword) {
            return keyword * LONGEST;
        }

        int byteOf(int keyword, int index) {
            if (index < 0 || index >= lengthOf(keyword)) {
                return NONE;
            }
            return bytes[firstByteOf(keyword) + index];
        }

        int findAlive(ByteRow text, int n) {
            for (int keyword = 0; keyword < given; keyword++) {
                if (lives[keyword] && lengths[keyword] == n && standsAt(keyword, text, 0)) {
                    return keyword;
                }
            }
            return NONE;
        }

        boolean standsAt(int keyword, ByteRow text, int start) {
            int length = lengthOf(keyword);
            return start >= 0 && start <= text.length - length
                    && folding.same(bytes, firstByteOf(keyword), text.bytes, start, length);
        }

        boolean startsWith(int keyword, int[] text, int from, int n) {
            return n <= lengthOf(keyword) && folding.same(bytes, firstByteOf(keyword), text, from, n);
        }

        int commonPrefix(int one, int other) {
            int most = Math.min(lengthOf(one), lengthOf(other));
            return folding.commonPrefix(bytes, firstByteOf(one), bytes, firstByteOf(other), most);
        }

        int mismatchesAt(int keyword, ByteRow text, int start) {
            int count = 0;
            for (int i = 0; i < lengthOf(keyword); i++) {
                if (folding.fold(byteOf(keyword, i)) != folding.fold(text.at(start + i))) {
                    count++;
                }
            }
            return count;
        }

        boolean isInsideAnother(int keyword) {
            int length = lengthOf(keyword);
            for (int other = 0; other < given; other++) {
                int places = lives[other] && other != keyword ? lengths[other] - length + 1 : 0;
                for (int i = 0; i < places; i++) {
                    if (folding.same(bytes, firstByteOf(keyword), bytes, firstByteOf(other) + i, length)) {
                        return true;
                    }
                }
            }
            return false;
        }
    }

    /**
     * One set of buckets.
     *
     * <p>Levels fill as the digits of a binary counter do: level k is empty or holds 2^k keywords, and a
     * higher level holds earlier ones. So the members in the order of their insertion, and their count,
     * tell every bucket. A set never has more than 40 live and 39 removed keywords.
     */
    private static final class BucketSet {
        final int[] members;
        int count;

        BucketSet() {
            members = new int[BUCKET_PLACES];
            count = 0;
        }

        /** The size of the bucket that is stored by the insertion that makes the count what is given. */
        static int storedSize(int newCount) {
            return newCount & -newCount;
        }

        int insert(int keyword) {
            if (count >= BUCKET_PLACES) {
                return 0;
            }
            members[count] = keyword;
            count++;
            return storedSize(count);
        }

        void clear() {
            count = 0;
        }

        int sizeAt(int level) {
            return count & 1 << level;
        }

        int firstAt(int level) {
            return count & -(2 << level);
        }

        int memberAt(int place) {
            return place >= 0 && place < count ? members[place] : NONE;
        }

        int levelWith(int keyword) {
            for (int level = 0; level < LEVELS; level++) {
                int first = firstAt(level);
                int behind = first + sizeAt(level);
                for (int place = first; place < behind; place++) {
                    if (memberAt(place) == keyword) {
                        return level;
                    }
                }
            }
            return NONE;
        }
    }

    /**
     * The matches of the live keywords in the stream, by start and length. As two live keywords are never
     * equal, there is at most one keyword for each. A cell is one byte of a word, to keep the table small:
     * 0, or the keyword's number and 1.
     */
    private static final class MatchTable {
        final long[] words;

        MatchTable() {
            words = new long[STREAM_BYTES * LONGEST / 8];
        }

        void clear() {
            Arrays.fill(words, 0L);
        }

        private static boolean isCell(int start, int length) {
            return start >= 0 && start < STREAM_BYTES && length >= 1 && length <= LONGEST;
        }

        int at(int start, int length) {
            if (!isCell(start, length)) {
                return NONE;
            }
            int cell = start * LONGEST + length - 1;
            return (int) (words[cell >> 3] >>> ((cell & 7) << 3) & 255L) - 1;
        }

        void put(int start, int length, int keyword) {
            if (!isCell(start, length)) {
                return;
            }
            int cell = start * LONGEST + length - 1;
            int shift = (cell & 7) << 3;
            long others = words[cell >> 3] & ~(255L << shift);
            words[cell >> 3] = others | (keyword + 1 & 255L) << shift;
        }

        int longestFrom(int start) {
            for (int length = LONGEST; length > 0; length--) {
                if (at(start, length) != NONE) {
                    return length;
                }
            }
            return 0;
        }

        int countFrom(int start) {
            int count = 0;
            for (int length = 1; length <= LONGEST; length++) {
                if (at(start, length) != NONE) {
                    count++;
                }
            }
            return count;
        }

        int countTo(int end) {
            int count = 0;
            for (int length = 1; length <= LONGEST; length++) {
                if (at(end - length + 1, length) != NONE) {
                    count++;
                }
            }
            return count;
        }
    }

    /** Keywords with a position each, up to a fixed capacity; what comes behind that is dropped. */
    private static final class MatchList {
        final int[] positions;
        final int[] numbers;
        int size;

        MatchList(int capacity) {
            positions = new int[Math.max(capacity, 0)];
            numbers = new int[Math.max(capacity, 0)];
            size = 0;
        }

        void clear() {
            size = 0;
        }

        void add(int position, int keyword) {
            if (size < positions.length && size < numbers.length) {
                positions[size] = position;
                numbers[size] = keyword;
                size++;
            }
        }

        int positionAt(int index) {
            return index >= 0 && index < size ? positions[index] : NONE;
        }

        int keywordAt(int index) {
            return index >= 0 && index < size ? numbers[index] : NONE;
        }
    }

    /**
     * The common superstring. It is built when it is asked for after the live keywords have changed.
     *
     * <p>The elements of the list stand one behind the other in the area, so that the last one left is the
     * superstring. An element keeps its slot; a slot of length 0 has been appended to another one.
     */
    private static final class Superstring {
        final Folding folding;
        final int[] starts;
        final int[] lengths;
        final int[] overlaps;
        ByteRow area;
        ByteRow spare;
        int slots;
        boolean built;

        Superstring(Folding setting) {
            folding = setting;
            starts = new int[MOST_LIVE];
            lengths = new int[MOST_LIVE];
            overlaps = new int[MOST_LIVE * MOST_LIVE];
            area = new ByteRow(MOST_LIVE * LONGEST);
            spare = new ByteRow(MOST_LIVE * LONGEST);
            slots = 0;
            built = false;
        }

        void forget() {
            built = false;
        }

        void build(Keywords keywords) {
            if (built) {
                return;
            }
            collect(keywords);
            for (int x = 0; x < slots; x++) {
                measureOverlaps(x, x);
            }
            for (int round = 1; round < slots; round++) {
                int cell = widestPair();
                if (cell != NONE) {
                    join(cell / MOST_LIVE, cell % MOST_LIVE);
                    measureOverlaps(cell / MOST_LIVE, slots);
                }
            }
            built = true;
        }

        private void collect(Keywords keywords) {
            area.clear();
            slots = 0;
            for (int keyword = 0; keyword < keywords.given; keyword++) {
                if (slots < MOST_LIVE && keywords.isAlive(keyword) && !keywords.isInsideAnother(keyword)) {
                    starts[slots] = area.length;
                    lengths[slots] = keywords.lengthOf(keyword);
                    slots++;
                    area.appendRun(keywords.bytes, keywords.firstByteOf(keyword), keywords.lengthOf(keyword));
                }
            }
        }

        private void measureOverlaps(int x, int behind) {
            for (int y = 0; y < behind; y++) {
                overlaps[x * MOST_LIVE + y] = overlapOf(x, y);
                overlaps[y * MOST_LIVE + x] = overlapOf(y, x);
            }
        }

        private int overlapOf(int x, int y) {
            int most = Math.min(LONGEST, Math.min(lengths[x], lengths[y])) - 1;
            return folding.overlap(area.bytes, starts[x] + lengths[x], area.bytes, starts[y], most);
        }

        /** The cell of the pair to be joined next: the first one with the largest overlap; NONE if there is no pair. */
        private int widestPair() {
            int widest = NONE;
            int cell = NONE;
            for (int x = 0; x < slots; x++) {
                for (int y = 0; y < slots; y++) {
                    boolean pair = x != y && lengths[x] > 0 && lengths[y] > 0;
                    if (pair && overlaps[x * MOST_LIVE + y] > widest) {
                        cell = x * MOST_LIVE + y;
                        widest = overlaps[cell];
                    }
                }
            }
            return cell;
        }

        private void join(int x, int y) {
            int overlap = overlaps[x * MOST_LIVE + y];
            int from = starts[y] + overlap;
            int count = lengths[y] - overlap;
            lengths[y] = 0;
            layOut(x, from, count);
        }

        /** Copies all elements to the spare area, with the given bytes of the old area behind element x. */
        private void layOut(int x, int from, int count) {
            spare.clear();
            for (int slot = 0; slot < slots; slot++) {
                int start = spare.length;
                spare.appendRun(area.bytes, starts[slot], lengths[slot]);
                if (slot == x) {
                    spare.appendRun(area.bytes, from, count);
                }
                starts[slot] = start;
                lengths[slot] = spare.length - start;
            }
            ByteRow old = area;
            area = spare;
            spare = old;
        }
    }
}
