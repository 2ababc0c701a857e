/** Boundary cases of the methods that count and find matches: promises 29 to 40. */
final class MatchEdges extends Edges {
    private MatchEdges() {
    }

    static void run() {
        allMatches();
        matchesOfOne();
        nextMatches();
        pairs();
        depth();
        contained();
        gapLengths();
        gapStarts();
        overlaps();
        overlapRanges();
        nearMatches();
        nearRanges();
        fewest();
        nearest();
    }

    /** The most matches there can be: sixteen keywords of equal bytes in a full stream of them. */
    private static Run thickest() {
        Run m = new Run();
        for (int n = 1; n <= 16; n++) {
            due("add", Check.add(m, "a".repeat(n), 1), n - 1);
        }
        scanAll(m, "a".repeat(600));
        return m;
    }

    private static Run without(Run m, int keyword) {
        due("remove", m.removeKeyword(keyword) >= 0 ? 1 : 0, 1);
        return m;
    }

    private static void allMatches() {
        says("P29", "Counts all matches", "Returns the number of matches");
        due("a new object", new Run().matchCount(), 0);
        due("no stream", with("a").matchCount(), 0);
        due("no keywords", scanned("aaa").matchCount(), 0);
        due("one byte", scanned("a", "a").matchCount(), 1);
        due("the stream is too short", scanned("aa", "aaa").matchCount(), 0);
        due("the whole stream", scanned(SIXTEEN, SIXTEEN).matchCount(), 1);
        due("the most", thickest().matchCount(), 16 * 600 - 120);
        Run m = scanned("a".repeat(200), "a");
        scanAll(m, "a".repeat(200));
        due("more than are stored", m.matchCount(), 400);
        due("removed", without(m, 0).matchCount(), 0);
    }

    private static void matchesOfOne() {
        says("P30", "Counts the matches of a keyword", "Returns the number of matches");
        Run m = thickest();
        dueAll("matchCountOf", 0, 15, m::matchCountOf, k -> 600 - k);
        Run one = scanned("ab", "ab", "b", "abc", "c");
        int[] want = {1, 1, 0, 0};
        dueAll("matchCountOf", 0, 3, one::matchCountOf, k -> want[k]);
        due("no stream", with("a").matchCountOf(0), 0);

        says("P30", "NO_SUCH if the keyword is not live", "`keyword`: number of a keyword");
        dueNoSuch("matchCountOf", 4, one::matchCountOf);
        due("a removed one", without(one, 0).matchCountOf(0), NO_SUCH);
        due("an equal one", Check.add(one, "ab", 1), 4);
        due("the old one", one.matchCountOf(0), NO_SUCH);
        due("the new one", one.matchCountOf(4), 1);
        due("no keywords", new Run().matchCountOf(0), NO_SUCH);
    }

    private static void nextMatches() {
        Run m = scanned("abxab", "ab", "x", "q");
        says("P31", "Returns the start of the first match of a keyword that does not start before a position",
                "Returns the start of the match");
        int[] want = {0, 3, 3, 3, NONE, NONE};
        dueAll("nextMatch", 0, 5, p -> m.nextMatch(0, p), p -> want[p]);
        Run full = scanned("a" + "x".repeat(598) + "a", "a");
        due("from the first position", full.nextMatch(0, 0), 0);
        due("from the second position", full.nextMatch(0, 1), 599);
        due("from the last position", full.nextMatch(0, 599), 599);
        due("behind it", full.nextMatch(0, 600), NONE);
        Run ends = scanned("x".repeat(584) + SIXTEEN, SIXTEEN);
        due("sixteen bytes at the end", ends.nextMatch(0, 584), 584);
        due("behind its start", ends.nextMatch(0, 585), NONE);

        says("P31", "NONE if there is no such match");
        due("not there", m.nextMatch(2, 0), NONE);
        due("no stream", with("a").nextMatch(0, 0), NONE);
        dueAll("behind the stream", 5, 20, p -> m.nextMatch(0, p), p -> NONE);
        says("P31", "`position`: position, 0 or more");
        dueAbove("far behind", p -> m.nextMatch(0, p), NONE);
        due("0", m.nextMatch(0, 0), 0);

        says("P31", "BAD_VALUE if the position is negative");
        dueBelow("position", p -> m.nextMatch(0, p), BAD_VALUE);
        dueBelow("before NONE", p -> m.nextMatch(2, p), BAD_VALUE);
        says("P31", "NO_SUCH if the keyword is not live", "`keyword`: number of a keyword");
        dueNoSuch("nextMatch", 3, k -> m.nextMatch(k, 0));
        dueNoSuch("before BAD_VALUE", 3, k -> m.nextMatch(k, -1));
        dueNoSuch("before NONE", 3, k -> m.nextMatch(k, HIGHEST));
        due("a removed one", without(m, 1).nextMatch(1, 0), NO_SUCH);
        due("a removed one before BAD_VALUE", m.nextMatch(1, -1), NO_SUCH);
    }

    private static void pairs() {
        says("P32", "Counts the pairs of different matches that have at least one byte of the stream in common",
                "Returns the number of pairs");
        due("a new object", new Run().overlappingPairs(), 0);
        due("one match", scanned("ab", "ab").overlappingPairs(), 0);
        due("side by side", scanned("abcd", "ab", "cd").overlappingPairs(), 0);
        due("one byte in common", scanned("abc", "ab", "bc").overlappingPairs(), 1);
        due("the same start", scanned("ab", "ab", "a").overlappingPairs(), 1);
        due("the same end", scanned("ab", "ab", "b").overlappingPairs(), 1);
        due("inside", scanned("abc", "abc", "b").overlappingPairs(), 1);
        due("of one keyword", scanned("aaaa", "aa").overlappingPairs(), 2);
        due("three at one byte", scanned("abc", "abc", "bc", "c").overlappingPairs(), 3);
        due("the first and the last of three", scanned("abcde", "abc", "b", "cde").overlappingPairs(), 2);
        due("the most", thickest().overlappingPairs(), mostPairs());
        due("a removed one", without(scanned("abc", "ab", "bc"), 0).overlappingPairs(), 0);
    }

    private static int mostPairs() {
        int pairs = 0;
        for (int length = 1; length <= 16; length++) {
            for (int other = 1; other <= 16; other++) {
                for (int start = 0; start + length <= 600; start++) {
                    int behind = Math.min(start + length, 600 - other + 1);
                    pairs += Math.max(0, behind - start - 1);
                    pairs += other < length && start + other <= 600 ? 1 : 0;
                }
            }
        }
        return pairs;
    }

    private static void depth() {
        says("P33", "Returns the largest number of matches that contain the same byte of the stream",
                "Returns the largest number;");
        due("one match", scanned("ab", "ab").maximumDepth(), 1);
        due("side by side", scanned("abcd", "ab", "cd").maximumDepth(), 1);
        due("one byte in common", scanned("abc", "ab", "bc").maximumDepth(), 2);
        due("one byte", scanned("a", "a").maximumDepth(), 1);
        due("at the first byte alone", scanned("abc", "a", "ab", "abc").maximumDepth(), 3);
        due("at the last byte alone", scanned("abc", "c", "bc", "abc").maximumDepth(), 3);
        due("at the last byte of a full stream", scanned("x".repeat(598) + "ab", "ab", "b").maximumDepth(), 2);
        due("pairs without a common byte of three", scanned("abcd", "ab", "bc", "cd").maximumDepth(), 2);
        due("the most", thickest().maximumDepth(), 136);
        says("P33", "0 if there are no matches");
        due("a new object", new Run().maximumDepth(), 0);
        due("no match", scanned("xyz", "a").maximumDepth(), 0);
        due("no stream", with("a").maximumDepth(), 0);
        due("no keywords", scanned("abc").maximumDepth(), 0);
        due("a removed one", without(scanned("a", "a"), 0).maximumDepth(), 0);
    }

    private static void contained() {
        says("P34", "Counts the contained matches: those whose bytes are all bytes of another match that is longer",
                "Returns the number of contained matches");
        due("a new object", new Run().containedMatches(), 0);
        due("one match", scanned("ab", "ab").containedMatches(), 0);
        due("at the start", scanned("abc", "abc", "ab").containedMatches(), 1);
        due("at the end", scanned("abc", "abc", "bc").containedMatches(), 1);
        due("inside", scanned("abc", "abc", "b").containedMatches(), 1);
        due("one byte outside", scanned("abcd", "abc", "bcd").containedMatches(), 0);
        due("one byte outside at the start", scanned("abcd", "bcd", "ab").containedMatches(), 0);
        due("in two others it counts once", scanned("abc", "ab", "bc", "b").containedMatches(), 1);
        due("in one that is contained", scanned("abc", "abc", "ab", "a").containedMatches(), 2);
        due("only where the longer one is", scanned("abcb", "abc", "b").containedMatches(), 1);
        due("in the union of two only", scanned("abcd", "ab", "cd", "bc").containedMatches(), 0);
        due("the most", thickest().containedMatches(), 16 * 600 - 120 - 585);
        due("the longer one is removed", without(scanned("ab", "ab", "a"), 0).containedMatches(), 0);
    }

    private static void gapLengths() {
        says("P35", "Returns the length of the longest gap", "Returns the length;");
        due("one byte", scanned("x").gapLength(), 1);
        due("a full stream", scanned("x".repeat(600), "a").gapLength(), 600);
        due("at the start", scanned("xxxaxx", "a").gapLength(), 3);
        due("at the end", scanned("xxaxxx", "a").gapLength(), 3);
        due("inside", scanned("xaxxxax", "a").gapLength(), 3);
        due("a match cuts it", scanned("xxxx", "xxxxx").gapLength(), 4);
        due("overlapping matches leave none", scanned("xabcx", "ab", "bc").gapLength(), 1);
        due("600 but the last", scanned("x".repeat(599) + "a", "a").gapLength(), 599);
        says("P35", "0 if every byte belongs to a match or the stream is empty");
        due("a new object", new Run().gapLength(), 0);
        due("no stream", with("a").gapLength(), 0);
        due("one byte", scanned("a", "a").gapLength(), 0);
        due("side by side", scanned("abcd", "ab", "cd").gapLength(), 0);
        due("a full stream", thickest().gapLength(), 0);
        Run m = scanned("ab", "ab");
        due("all", m.gapLength(), 0);
        due("a removed one", without(m, 0).gapLength(), 2);
    }

    private static void gapStarts() {
        says("P36", "Returns the start of the longest gap, the first one if there are several",
                "Returns the position of its first byte");
        due("one byte", scanned("x").gapStart(), 0);
        due("at the start", scanned("xxxaxx", "a").gapStart(), 0);
        due("at the end", scanned("xxaxxx", "a").gapStart(), 3);
        due("the first of two", scanned("axxaxxa", "a").gapStart(), 1);
        due("the first of three", scanned("xaxax", "a").gapStart(), 0);
        due("the second is longer", scanned("axaxxax", "a").gapStart(), 3);
        due("the last byte", scanned("a".repeat(599) + "x", "a").gapStart(), 599);
        due("a full stream", scanned("x".repeat(600), "a").gapStart(), 0);
        says("P36", "NONE if there is no gap");
        due("a new object", new Run().gapStart(), NONE);
        due("no stream", with("a").gapStart(), NONE);
        due("one byte", scanned("a", "a").gapStart(), NONE);
        due("a full stream", thickest().gapStart(), NONE);
        due("a removed one", without(scanned("ab", "ab"), 0).gapStart(), 0);
    }

    private static void overlaps() {
        says("P37", "Returns the overlap of two keywords");
        due("one byte", with("ab", "bc").overlapLength(0, 1), 1);
        due("the other way round", with("ab", "bc").overlapLength(1, 0), 0);
        due("the longest of several", with("xaba", "abay").overlapLength(0, 1), 3);
        due("not the whole first one", with("ab", "abc").overlapLength(0, 1), 0);
        due("not the whole second one", with("cab", "ab").overlapLength(0, 1), 0);
        due("shorter than the whole one", with("aa", "aaa").overlapLength(0, 1), 1);
        due("shorter than the whole one", with("aa", "aaa").overlapLength(1, 0), 1);
        due("one byte has none", with("a", "ab").overlapLength(0, 1), 0);
        due("one byte has none", with("ba", "a").overlapLength(0, 1), 0);

        says("P37", "Returns the length, 0 to 15");
        due("fifteen", with("x" + "a".repeat(15), "a".repeat(15) + "y").overlapLength(0, 1), 15);
        due("fifteen of itself", with("a".repeat(16)).overlapLength(0, 0), 15);
        due("none", with(SIXTEEN).overlapLength(0, 0), 0);
        due("one of itself", with("abca").overlapLength(0, 0), 1);
        due("one byte of itself", with("a").overlapLength(0, 0), 0);
    }

    private static void overlapRanges() {
        says("P37", "The keywords may have been removed, and they may be the same");
        Run m = with("aba", "bab");
        due("both live", m.overlapLength(0, 1), 2);
        due("the same", m.overlapLength(0, 0), 1);
        due("one removed", without(m, 0).overlapLength(0, 1), 2);
        due("one removed", m.overlapLength(1, 0), 2);
        due("both removed", without(m, 1).overlapLength(0, 1), 2);
        due("the same", m.overlapLength(1, 1), 1);
        due("the last number", given(120, 0).overlapLength(119, 119), 0);

        says("P37", "NO_SUCH if one of the numbers has not been given out", "`first`: number", "`second`: number");
        dueNoSuch("first", 2, k -> m.overlapLength(k, 0));
        dueNoSuch("second", 2, k -> m.overlapLength(0, k));
        dueNoSuch("both", 2, k -> m.overlapLength(k, k));
        due("no keywords", new Run().overlapLength(0, 0), NO_SUCH);
    }

    private static void nearMatches() {
        says("P38", "Counts the positions of the stream at which a keyword occurs with at most the given number",
                "Returns the number of positions");
        Run m = scanned("abcdxbcdxxcdxxxdxxxx", "abcd");
        int[] want = {1, 2, 3, 4};
        dueAll("mismatches", 0, 3, n -> m.nearMatchCount(0, n), n -> want[n]);
        due("all places", scanned("xxxx", "ab").nearMatchCount(0, 2), 3);
        due("a full stream", scanned("x".repeat(600), "a").nearMatchCount(0, 1), 600);
        due("a full stream", scanned("x".repeat(600), "abc").nearMatchCount(0, 3), 598);
        due("a full stream", scanned("x".repeat(600), "abcd").nearMatchCount(0, 3), 0);

        says("P38", "A mismatch is a byte of the keyword that differs from the corresponding byte of the stream");
        due("the first byte", scanned("xbc", "abc").nearMatchCount(0, 0), 0);
        due("the first byte", scanned("xbc", "abc").nearMatchCount(0, 1), 1);
        due("the last byte", scanned("abx", "abc").nearMatchCount(0, 0), 0);
        due("the last byte", scanned("abx", "abc").nearMatchCount(0, 1), 1);
        due("another case", scanned("abC", "abc").nearMatchCount(0, 0), 0);
        due("a missing byte is no mismatch", scanned("bc", "abc").nearMatchCount(0, 3), 0);

        says("P38", "The keyword must lie in the stream as a whole");
        due("one byte short", scanned("ab", "abc").nearMatchCount(0, 3), 0);
        due("just as long", scanned("abx", "abc").nearMatchCount(0, 1), 1);
        due("one byte longer", scanned("abxx", "abc").nearMatchCount(0, 3), 2);
        due("no stream", with("a").nearMatchCount(0, 3), 0);
        due("the last place", scanned("x".repeat(584) + SIXTEEN, SIXTEEN).nearMatchCount(0, 0), 1);
    }

    private static void nearRanges() {
        Run m = scanned("abab", "ab", "b");
        says("P38", "BAD_VALUE if mismatches is out of range", "`mismatches`: largest number of mismatches, 0 to 3");
        due("0", m.nearMatchCount(0, 0), 2);
        due("3", m.nearMatchCount(0, 3), 3);
        due("4", m.nearMatchCount(0, 4), BAD_VALUE);
        dueBelow("mismatches", n -> m.nearMatchCount(0, n), BAD_VALUE);
        dueAbove("mismatches", n -> m.nearMatchCount(0, n), BAD_VALUE);
        due("without a stream", with("a").nearMatchCount(0, 4), BAD_VALUE);
        says("P38", "NO_SUCH if the keyword is not live", "`keyword`: number of a keyword");
        dueNoSuch("nearMatchCount", 2, k -> m.nearMatchCount(k, 0));
        dueNoSuch("before BAD_VALUE", 2, k -> m.nearMatchCount(k, 4));
        due("a removed one", without(m, 0).nearMatchCount(0, 0), NO_SUCH);
        due("a removed one before BAD_VALUE", m.nearMatchCount(0, -1), NO_SUCH);
    }

    private static void fewest() {
        says("P39", "Returns the smallest number of mismatches with which a keyword occurs in the stream",
                "Returns the number of mismatches, 0 to the length of the keyword");
        due("none", scanned("xabx", "ab").fewestMismatches(0), 0);
        due("one", scanned("xaxbx", "ab").fewestMismatches(0), 1);
        due("all of one", scanned("x", "a").fewestMismatches(0), 1);
        due("all of sixteen", scanned("x".repeat(600), SIXTEEN).fewestMismatches(0), 16);
        due("fifteen", scanned("x".repeat(599) + "p", SIXTEEN).fewestMismatches(0), 15);
        due("at the first place", scanned("abyxx", "abx").fewestMismatches(0), 1);
        due("at the last place", scanned("xxxxab", "ab").fewestMismatches(0), 0);
        says("P39", "NONE if the stream is shorter than the keyword");
        due("no stream", with("a").fewestMismatches(0), NONE);
        due("one byte short", scanned("ab", "abc").fewestMismatches(0), NONE);
        due("just as long", scanned("abx", "abc").fewestMismatches(0), 1);
        due("fifteen bytes", scanned("a".repeat(15), SIXTEEN).fewestMismatches(0), NONE);
        due("sixteen bytes", scanned("a".repeat(16), SIXTEEN).fewestMismatches(0), 15);
        says("P39", "NO_SUCH if the keyword is not live", "`keyword`: number of a keyword");
        Run m = scanned("ab", "ab", "b");
        dueNoSuch("fewestMismatches", 2, m::fewestMismatches);
        due("a removed one", without(m, 0).fewestMismatches(0), NO_SUCH);
        due("before NONE", without(with("abc", "b"), 0).fewestMismatches(0), NO_SUCH);
        due("before NONE", new Run().fewestMismatches(0), NO_SUCH);
    }

    private static void nearest() {
        says("P40", "Returns the position at which a keyword occurs with the smallest number of mismatches",
                "Returns the position of the first byte");
        due("the first of two", scanned("xabxab", "ab").nearestStart(0), 1);
        due("the better one", scanned("axxab", "ab").nearestStart(0), 3);
        due("the first of two with one mismatch", scanned("xxaxxb", "ab").nearestStart(0), 2);
        due("all differ", scanned("xxxx", "ab").nearestStart(0), 0);
        due("the first place", scanned("abxx", "ab").nearestStart(0), 0);
        due("the last place", scanned("x".repeat(584) + SIXTEEN, SIXTEEN).nearestStart(0), 584);
        due("the last byte", scanned("x".repeat(599) + "a", "a").nearestStart(0), 599);
        says("P40", "NONE if the stream is shorter than the keyword");
        due("no stream", with("a").nearestStart(0), NONE);
        due("one byte short", scanned("ab", "abc").nearestStart(0), NONE);
        due("just as long", scanned("abx", "abc").nearestStart(0), 0);
        due("fifteen bytes", scanned("a".repeat(15), SIXTEEN).nearestStart(0), NONE);
        due("sixteen bytes", scanned("a".repeat(16), SIXTEEN).nearestStart(0), 0);
        says("P40", "NO_SUCH if the keyword is not live", "`keyword`: number of a keyword");
        Run m = scanned("ab", "ab", "b");
        dueNoSuch("nearestStart", 2, m::nearestStart);
        due("a removed one", without(m, 0).nearestStart(0), NO_SUCH);
        due("before NONE", without(with("abc", "b"), 0).nearestStart(0), NO_SUCH);
        due("before NONE", new Run().nearestStart(0), NO_SUCH);
    }
}
