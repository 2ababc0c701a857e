/** Boundary cases of the best cover and of the leftmost-longest matches: promises 44 to 51. */
final class CoverEdges extends Edges {
    /** A row of blocks is covered by whole blocks, or by the bytes in them and the pairs between them; never by both. */
    private static final String BLOCK = "S" + "m".repeat(14) + "E";

    private CoverEdges() {
    }

    static void run() {
        disjoint();
        mostBytes();
        mostWeight();
        fewestMatches();
        earliest();
        lowestNumber();
        otherwise();
        leftmost();
        longestOne();
        bytesAndWeights();
        coverSizes();
        coverStarts();
        coverKeywords();
        longestSizes();
        longestStarts();
        longestKeywords();
        afterChanges();
    }

    /** A matcher with this stream and keywords that are written with their weights, as in "ab=7". */
    private static Run weighed(String stream, String... keywords) {
        Run m = new Run();
        for (int i = 0; i < keywords.length; i++) {
            int sign = keywords[i].lastIndexOf('=');
            int weight = Integer.parseInt(keywords[i].substring(sign + 1));
            due("add", Check.add(m, keywords[i].substring(0, sign), weight), i);
        }
        scanAll(m, stream);
        return m;
    }

    /** The cover's bytes and weight, then a start and a keyword for each match. */
    private static void dueCover(Run m, int bytes, int weight, int... pairs) {
        due("coveredBytes", m.coveredBytes(), bytes);
        due("coverWeight", m.coverWeight(), weight);
        due("coverSize", m.coverSize(), pairs.length / 2);
        dueAll("coverStart", 0, pairs.length / 2, m::coverStart, i -> 2 * i < pairs.length ? pairs[2 * i] : NONE);
        dueAll("coverKeyword", 0, pairs.length / 2, m::coverKeyword,
                i -> 2 * i < pairs.length ? pairs[2 * i + 1] : NONE);
    }

    /** A start and a keyword for each leftmost-longest match. */
    private static void dueLongest(Run m, int... pairs) {
        due("longestSize", m.longestSize(), pairs.length / 2);
        dueAll("longestStart", 0, pairs.length / 2, m::longestStart, i -> 2 * i < pairs.length ? pairs[2 * i] : NONE);
        dueAll("longestKeyword", 0, pairs.length / 2, m::longestKeyword,
                i -> 2 * i < pairs.length ? pairs[2 * i + 1] : NONE);
    }

    private static void disjoint() {
        says("D4", "A cover is a set of matches no two of which have a byte of the stream in common");
        dueCover(weighed("abcd", "ab=1", "cd=1"), 4, 2, 0, 0, 2, 1);
        dueCover(weighed("abc", "ab=2", "bc=1"), 2, 2, 0, 0);
        dueCover(weighed("aaaa", "aaa=1"), 3, 1, 0, 0);
        dueCover(weighed("xyz", "a=1"), 0, 0);
    }

    private static void mostBytes() {
        says("D4", "The best cover has the largest number of covered bytes");
        dueCover(weighed("ab", "b=99", "ab=1"), 2, 1, 0, 1);
        dueCover(weighed("abcd", "bcd=99", "ab=1", "cd=1"), 4, 2, 0, 1, 2, 2);
        dueCover(weighed("abcde", "bcd=99", "ab=1", "de=1"), 4, 2, 0, 1, 3, 2);
        // One byte more outweighs nearly thirty thousand: 599 bytes in 300 heavy matches, or 600 in 300 light ones.
        Run chain = weighed("x" + "ab".repeat(299) + "z", "ab=99", "z=99", "xa=1", "ba=1", "bz=1");
        due("coveredBytes", chain.coveredBytes(), 600);
        due("coverWeight", chain.coverWeight(), 300);
        due("coverSize", chain.coverSize(), 300);
        due("the first", chain.coverKeyword(0), 2);
        due("the last", chain.coverKeyword(299), 4);
        due("its start", chain.coverStart(299), 598);
        // The pairs leave the last byte free, but weigh 54945 with what lies between them.
        Run blocks = weighed("Z" + BLOCK.repeat(37), "ZS=99", "ES=99", "m=99", BLOCK + "=1", "Z=1");
        due("coveredBytes", blocks.coveredBytes(), 593);
        due("coverWeight", blocks.coverWeight(), 38);
        due("coverSize", blocks.coverSize(), 38);
        due("remove the blocks", blocks.removeKeyword(3), 4);
        due("coveredBytes", blocks.coveredBytes(), 592);
        due("coverWeight", blocks.coverWeight(), 54945);
    }

    private static void mostWeight() {
        says("D4", "among equal covers, the largest sum of weights of its matches");
        dueCover(weighed("ab", "ab=5", "a=2", "b=2"), 2, 5, 0, 0);
        dueCover(weighed("ab", "ab=5", "a=3", "b=3"), 2, 6, 0, 1, 1, 2);
        dueCover(weighed("abc", "ab=98", "bc=99"), 2, 99, 1, 1);
        Run singles = weighed("a".repeat(600), "a=99", "aa=99");
        due("coverWeight", singles.coverWeight(), 59400);
        due("coverSize", singles.coverSize(), 600);
        Run many = twoWays(5);
        due("one unit outweighs 260 matches", many.coverWeight(), 600);
        due("coverSize", many.coverSize(), 300);
        due("the first", many.coverKeyword(0), 0);
        Run most = blocksOrPairs(3);
        due("one unit outweighs 517 matches", most.coverWeight(), 595);
        due("coverSize", most.coverSize(), 556);
        Run heavy = weighed("a".repeat(16), "a".repeat(16) + "=17", "a=1");
        dueCover(heavy, 16, 17, 0, 0);
    }

    /**
     * A full stream that is covered either by 300 matches of weight 2, or by 40 matches that weigh 594 and what the
     * fifth keyword weighs; as no keyword fits into both ways, they can't be mixed.
     */
    private static Run twoWays(int fifthWeight) {
        return weighed("x" + "ab".repeat(299) + "z", "xa=2", "ba=2", "bz=2", "ab".repeat(8) + "=16",
                "ababab=" + fifthWeight, "x=1", "z=1");
    }

    /** 594 bytes that are covered by 39 matches that weigh 594, or by 556 that weigh 592 and what the last pair weighs. */
    private static Run blocksOrPairs(int lastWeight) {
        return weighed("Z" + BLOCK.repeat(37) + "Z", "ZS=2", "ES=2", "EZ=" + lastWeight, "m=1", BLOCK + "=16", "Z=1");
    }

    private static void fewestMatches() {
        says("D4", "among equal covers, the smallest number of matches");
        Run fewest = blocksOrPairs(2);
        due("coverWeight", fewest.coverWeight(), 594);
        due("coverSize", fewest.coverSize(), 39);
        Run few = twoWays(6);
        due("coverWeight", few.coverWeight(), 600);
        due("coverSize", few.coverSize(), 40);
        due("the first", few.coverKeyword(0), 5);
        dueCover(weighed("ab", "a=1", "b=1", "ab=2"), 2, 2, 0, 2);
        dueCover(weighed("a".repeat(16), "a=1", "a".repeat(16) + "=16"), 16, 16, 0, 1);
        due("one unit less", weighed("a".repeat(16), "a=1", "a".repeat(16) + "=15").coverSize(), 16);
        Run pairs = weighed("a".repeat(600), "a=1", "aa=2");
        due("coverWeight", pairs.coverWeight(), 600);
        due("coverSize", pairs.coverSize(), 300);
        Run most = weighed("a".repeat(600), "a=49", "aa=98");
        due("coverWeight", most.coverWeight(), 29400);
        due("coverSize", most.coverSize(), 300);
    }

    private static void earliest() {
        says("D4", "If several covers are best by these three criteria, the following one is used");
        dueCover(weighed("aaa", "aa=1"), 2, 1, 0, 0);
        dueCover(weighed("aaaxaaa", "aa=1"), 4, 2, 0, 0, 4, 0);
        says("D4", "Go through the stream from position 0");
        dueCover(weighed("abc", "bc=3", "ab=3"), 2, 3, 0, 1);
        dueCover(weighed("a", "a=1"), 1, 1, 0, 0);
    }

    private static void lowestNumber() {
        says("D4", "If some best cover that contains all matches chosen so far, and no other match that starts before");
        dueCover(weighed("aaaaa", "aaa=4", "aa=4"), 5, 8, 0, 0, 3, 1);
        dueCover(weighed("aaaaa", "aa=4", "aaa=4"), 5, 8, 0, 0, 2, 1);
        dueCover(weighed("aaaaaa", "a=9", "aa=9", "aaaaaa=1"), 6, 54, 0, 0, 1, 0, 2, 0, 3, 0, 4, 0, 5, 0);
        // Keyword 0 starts at position 0 too, but in no best cover.
        dueCover(weighed("abc", "ab=99", "a=1", "bc=1"), 3, 2, 0, 1, 1, 2);
        // Behind the match that was chosen first only what fits to it may be chosen.
        dueCover(weighed("abcdef", "abc=5", "ab=5", "cdef=5", "def=5"), 6, 10, 0, 0, 3, 3);
        dueCover(weighed("abcdef", "ab=5", "abc=5", "def=5", "cdef=5"), 6, 10, 0, 0, 2, 3);
    }

    private static void otherwise() {
        says("D4", "Otherwise continue with the next position");
        dueCover(weighed("xab", "ab=1"), 2, 1, 1, 0);
        dueCover(weighed("xxaxxaxx", "a=1"), 2, 2, 2, 0, 5, 0);
        dueCover(weighed("abcd", "ab=1", "bcd=1"), 3, 1, 1, 1);
        Run last = weighed("x".repeat(599) + "a", "a=7");
        dueCover(last, 1, 7, 599, 0);
        Run far = weighed("x".repeat(584) + SIXTEEN, SIXTEEN + "=7");
        dueCover(far, 16, 7, 584, 0);
    }

    private static void leftmost() {
        says("D5", "Go through the stream from position 0");
        dueLongest(scanned("aaa", "aa"), 0, 0);
        dueLongest(scanned("abc", "bc", "ab"), 0, 1);
        dueLongest(scanned("abcde", "bcde", "ab", "e"), 0, 1, 4, 2);
        says("D5", "otherwise continue with the next position");
        dueLongest(scanned("xab", "ab"), 1, 0);
        dueLongest(scanned("xxaxxaxx", "a"), 2, 0, 5, 0);
        dueLongest(scanned("x".repeat(599) + "a", "a"), 599, 0);
        dueLongest(scanned("xyz", "a"));
        dueLongest(new Run());
    }

    private static void longestOne() {
        says("D5", "If matches start at the current position, take the longest one and continue behind its end");
        dueLongest(scanned("aaaa", "a", "aaa", "aa"), 0, 1, 3, 0);
        dueLongest(scanned("ab", "ab", "b"), 0, 0);
        dueLongest(scanned("abc", "ab", "bc", "c"), 0, 0, 2, 2);
        dueLongest(scanned("a".repeat(33), "a".repeat(15), "a".repeat(16), "a"), 0, 1, 16, 1, 32, 2);
        dueLongest(scanned("x".repeat(584) + SIXTEEN, "a", SIXTEEN), 584, 1);
    }

    private static void bytesAndWeights() {
        says("P44", "Returns the number of bytes that the best cover covers", "Returns the number of bytes.");
        due("a new object", new Run().coveredBytes(), 0);
        due("no stream", with("a").coveredBytes(), 0);
        due("no keywords", scanned("a").coveredBytes(), 0);
        due("one byte", weighed("a", "a=1").coveredBytes(), 1);
        due("sixteen bytes", weighed(SIXTEEN, SIXTEEN + "=1").coveredBytes(), 16);
        due("all bytes", weighed("a".repeat(600), "a=1").coveredBytes(), 600);
        due("all but one", weighed("a".repeat(600), "a".repeat(7) + "=1").coveredBytes(), 595);

        says("P45", "Returns the sum of the weights of the matches of the best cover", "Returns the sum.");
        due("a new object", new Run().coverWeight(), 0);
        due("no match", weighed("x", "a=99").coverWeight(), 0);
        due("the lowest", weighed("a", "a=1").coverWeight(), 1);
        due("the highest of one", weighed("a", "a=99").coverWeight(), 99);
        due("the highest of all", weighed("a".repeat(600), "a=99").coverWeight(), 59400);
        due("each match counts", weighed("abab", "ab=7").coverWeight(), 14);
    }

    private static void coverSizes() {
        says("P46", "Returns the number of matches of the best cover", "Returns the number of matches.");
        due("a new object", new Run().coverSize(), 0);
        due("no match", weighed("x", "a=1").coverSize(), 0);
        due("one", weighed("a", "a=1").coverSize(), 1);
        due("the most", weighed("a".repeat(600), "a=1").coverSize(), 600);
        due("not all matches", weighed("aaaa", "aa=1").coverSize(), 2);
    }

    private static void coverStarts() {
        Run m = weighed("xabxab", "ab=1");
        Run most = weighed("a".repeat(600), "a=1");
        says("P47", "Returns the start of a match of the best cover", "Returns the start;",
                "`index`: index of the match, from 0");
        due("the first", m.coverStart(0), 1);
        due("the last", m.coverStart(1), 4);
        due("the last of the most", most.coverStart(599), 599);
        says("P47", "The matches are ordered by their starts");
        dueAll("coverStart", 0, 2, weighed("cba", "a=1", "b=1", "c=1")::coverStart, i -> i);
        says("P47", "NONE if the cover has no such match");
        dueAll("behind two", 2, 20, m::coverStart, i -> NONE);
        dueAll("behind 600", 600, 620, most::coverStart, i -> NONE);
        dueAbove("far behind", m::coverStart, NONE);
        due("an empty cover", new Run().coverStart(0), NONE);
        says("P47", "BAD_VALUE if the index is negative");
        dueBelow("index", m::coverStart, BAD_VALUE);
        dueBelow("of an empty cover", new Run()::coverStart, BAD_VALUE);
    }

    private static void coverKeywords() {
        Run m = weighed("xabxcd", "cd=1", "ab=1");
        Run most = weighed("a".repeat(600), "b=1", "a=1");
        says("P48", "Returns the keyword of a match of the best cover", "Returns the number of the keyword",
                "`index`: index of the match, from 0");
        due("the first", m.coverKeyword(0), 1);
        due("the last", m.coverKeyword(1), 0);
        due("the last of the most", most.coverKeyword(599), 1);
        Run old = given(119, 0);
        due("add", Check.add(old, "q", 1), 119);
        due("scan", Check.scan(old, "q"), 1);
        due("the highest number", old.coverKeyword(0), 119);
        says("P48", "The matches are ordered by their starts");
        dueAll("coverKeyword", 0, 2, weighed("cba", "a=1", "b=1", "c=1")::coverKeyword, i -> 2 - i);
        says("P48", "NONE if the cover has no such match");
        dueAll("behind two", 2, 20, m::coverKeyword, i -> NONE);
        dueAll("behind 600", 600, 620, most::coverKeyword, i -> NONE);
        dueAbove("far behind", m::coverKeyword, NONE);
        due("an empty cover", new Run().coverKeyword(0), NONE);
        says("P48", "BAD_VALUE if the index is negative");
        dueBelow("index", m::coverKeyword, BAD_VALUE);
        dueBelow("of an empty cover", new Run()::coverKeyword, BAD_VALUE);
    }

    private static void longestSizes() {
        says("P49", "Returns the number of leftmost-longest matches", "Returns the number of matches.");
        due("a new object", new Run().longestSize(), 0);
        due("no stream", with("a").longestSize(), 0);
        due("no match", scanned("x", "a").longestSize(), 0);
        due("one", scanned("a", "a").longestSize(), 1);
        due("the most", scanned("a".repeat(600), "a").longestSize(), 600);
        due("not those of the cover", scanned("abcd", "abc", "ab", "cd").longestSize(), 1);
    }

    private static void longestStarts() {
        Run m = scanned("xabxab", "ab", "b");
        Run most = scanned("a".repeat(600), "a");
        says("P50", "Returns the start of a leftmost-longest match", "Returns the start;",
                "`index`: index of the match, from 0");
        due("the first", m.longestStart(0), 1);
        due("the last", m.longestStart(1), 4);
        due("the last of the most", most.longestStart(599), 599);
        says("P50", "The matches are ordered by their starts");
        dueAll("longestStart", 0, 2, scanned("cba", "a", "b", "c")::longestStart, i -> i);
        says("P50", "NONE if there is no such match");
        dueAll("behind two", 2, 20, m::longestStart, i -> NONE);
        dueAll("behind 600", 600, 620, most::longestStart, i -> NONE);
        dueAbove("far behind", m::longestStart, NONE);
        due("no matches", new Run().longestStart(0), NONE);
        says("P50", "BAD_VALUE if the index is negative");
        dueBelow("index", m::longestStart, BAD_VALUE);
        dueBelow("no matches", new Run()::longestStart, BAD_VALUE);
    }

    private static void longestKeywords() {
        Run m = scanned("xabxcd", "cd", "ab", "c");
        Run most = scanned("a".repeat(600), "b", "a");
        says("P51", "Returns the keyword of a leftmost-longest match", "Returns the number of the keyword",
                "`index`: index of the match, from 0");
        due("the first", m.longestKeyword(0), 1);
        due("the last", m.longestKeyword(1), 0);
        due("the last of the most", most.longestKeyword(599), 1);
        Run old = given(119, 0);
        due("add", Check.add(old, "q", 1), 119);
        due("scan", Check.scan(old, "q"), 1);
        due("the highest number", old.longestKeyword(0), 119);
        says("P51", "The matches are ordered by their starts");
        dueAll("longestKeyword", 0, 2, scanned("cba", "a", "b", "c")::longestKeyword, i -> 2 - i);
        says("P51", "NONE if there is no such match");
        dueAll("behind two", 2, 20, m::longestKeyword, i -> NONE);
        dueAll("behind 600", 600, 620, most::longestKeyword, i -> NONE);
        dueAbove("far behind", m::longestKeyword, NONE);
        due("no matches", new Run().longestKeyword(0), NONE);
        says("P51", "BAD_VALUE if the index is negative");
        dueBelow("index", m::longestKeyword, BAD_VALUE);
        dueBelow("no matches", new Run()::longestKeyword, BAD_VALUE);
    }

    /** The two lists do not disturb each other, and both follow every change. */
    private static void afterChanges() {
        Run m = scanned("abcd", "abc", "ab", "cd");
        due("coverSize", m.coverSize(), 2);
        due("longestKeyword", m.longestKeyword(0), 0);
        due("coverKeyword", m.coverKeyword(0), 1);
        due("longestStart", m.longestStart(1), NONE);
        due("coverStart", m.coverStart(1), 2);
        due("remove", m.removeKeyword(1), 2);
        due("coverKeyword", m.coverKeyword(0), 0);
        due("scan", Check.scan(m, "cd"), 1);
        due("coverStart", m.coverStart(1), 4);
        due("longestStart", m.longestStart(1), 4);
        due("reset", m.resetStream(), 6);
        due("longestStart", m.longestStart(0), NONE);
        due("coverStart", m.coverStart(0), NONE);
    }
}
