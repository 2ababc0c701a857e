/** Folding: which bytes it makes equal, and that every comparison of bytes heeds it. */
final class FoldingEdges extends Edges {
    private FoldingEdges() {
    }

    static void run() {
        says("D1", "If it is on, the bytes A to Z are treated as a to z in all comparisons of bytes");
        keywordBytes(false);
        keywordBytes(true);
        streamBytes(false);
        streamBytes(true);
        for (boolean on : new boolean[] {false, true}) {
            keywords(on);
            buckets(on);
            reports(on);
            matches(on);
            gaps(on);
            overlaps(on);
            nearMatches(on);
            superstring(on);
            chosenMatches(on);
        }
        removedKeywords();
    }

    private static int fold(boolean on, int value) {
        return on && value >= 65 && value <= 90 ? value + 32 : value;
    }

    private static void keywordBytes(boolean on) {
        for (int one = 33; one <= 126; one++) {
            for (int other = 33; other <= 126; other++) {
                Run m = folded(on, "x" + (char) one);
                boolean equal = fold(on, one) == fold(on, other);
                due(one + " and " + other, Check.find(m, "x" + (char) other), equal ? 0 : NONE);
            }
        }
    }

    /** Every byte of the stream, those above 126 too, against every byte of a keyword. */
    private static void streamBytes(boolean on) {
        StringBuilder all = new StringBuilder();
        for (int value = 0; value <= 255; value++) {
            all.append((char) value);
        }
        for (int one = 33; one <= 126; one++) {
            int byteOfKeyword = fold(on, one);
            Run m = folded(on, "" + (char) one);
            int want = count(0, 255, value -> fold(on, value) == byteOfKeyword);
            due("matches of " + one, scanAll(m, all.toString()), want);
            due("byte " + one, m.nextMatch(0, one), one);
            due("matches of " + one, m.matchCountOf(0), want);
        }
    }

    private static void keywords(boolean on) {
        due("addKeyword", Check.add(folded(on, "AbZ"), "aBz", 1), on ? DUPLICATE : 1);
        due("findKeyword", Check.find(folded(on, "AbZ"), "aBz"), on ? 0 : NONE);
        due("at the last byte", Check.find(folded(on, SIXTEEN), "abcdefghijklmnoP"), on ? 0 : NONE);
        due("at the first byte", Check.find(folded(on, SIXTEEN), "Abcdefghijklmnop"), on ? 0 : NONE);
        Run m = folded(on, "AbZ");
        due("keywordByte is as it was added", m.keywordByte(0, 0), 'A');
        due("keywordByte is as it was added", m.keywordByte(0, 1), 'b');
    }

    private static void buckets(boolean on) {
        due("stateCount", folded(on, "Ab", "aC").stateCount(1), on ? 4 : 5);
        due("failureLength", folded(on, "xaA").failureLength(0, 3), 0);
        due("failureLength", folded(on, "aA").failureLength(0, 2), on ? 1 : 0);
        due("failureLength of another one", folded(on, "xab", "ABy").failureLength(0, 3), on ? 2 : 0);
        Run m = folded(on, "AbZ");
        due("scan", Check.scan(m, "xaB"), 0);
        due("currentDepth", m.currentDepth(0), on ? 2 : 0);
    }

    private static void reports(boolean on) {
        Run m = folded(on, "AbZ");
        due("scan", Check.scan(m, "abzABZ"), on ? 2 : 0);
        due("reportCount", m.reportCount(), on ? 2 : 0);
        due("reportEnd", m.reportEnd(1), on ? 5 : NONE);
        due("reportKeyword", m.reportKeyword(1), on ? 0 : NONE);
        due("streamByte is as it was scanned", m.streamByte(3), 'A');
    }

    private static void matches(boolean on) {
        Run m = folded(on, "AB", "b");
        due("scan", Check.scan(m, "xaB"), on ? 2 : 0);
        due("matchCount", m.matchCount(), on ? 2 : 0);
        due("matchCountOf", m.matchCountOf(0), on ? 1 : 0);
        due("nextMatch", m.nextMatch(0, 0), on ? 1 : NONE);
        due("overlappingPairs", m.overlappingPairs(), on ? 1 : 0);
        due("maximumDepth", m.maximumDepth(), on ? 2 : 0);
        due("containedMatches", m.containedMatches(), on ? 1 : 0);
        due("add behind the scan", Check.add(m, "X", 1), 2);
        due("matchCountOf", m.matchCountOf(2), on ? 1 : 0);
    }

    private static void gaps(boolean on) {
        Run m = folded(on, "AB");
        due("scan", Check.scan(m, "abxAB"), on ? 2 : 1);
        due("gapLength", m.gapLength(), on ? 1 : 3);
        due("gapStart", m.gapStart(), on ? 2 : 0);
    }

    private static void overlaps(boolean on) {
        due("overlapLength", folded(on, "xAb", "aBy").overlapLength(0, 1), on ? 2 : 0);
        due("overlapLength", folded(on, "aBA").overlapLength(0, 0), on ? 1 : 0);
    }

    private static void nearMatches(boolean on) {
        Run m = folded(on, "aB");
        due("scan", Check.scan(m, "zzAb"), on ? 1 : 0);
        due("nearMatchCount", m.nearMatchCount(0, 0), on ? 1 : 0);
        due("nearMatchCount", m.nearMatchCount(0, 1), on ? 1 : 0);
        due("fewestMismatches", m.fewestMismatches(0), on ? 0 : 2);
        due("nearestStart", m.nearestStart(0), on ? 2 : 0);
    }

    private static void superstring(boolean on) {
        Run m = folded(on, "xAb", "aBy");
        String want = on ? "xAby" : "xAbaBy";
        due("superstringLength", m.superstringLength(), want.length());
        dueAll("superstringByte", 0, want.length() - 1, m::superstringByte, want::charAt);
        due("superstringStart", m.superstringStart(1), on ? 1 : 3);
        Run inside = folded(on, "xab", "AB");
        due("one that occurs in another", inside.superstringLength(), on ? 3 : 5);
        due("superstringStart", inside.superstringStart(1), on ? 1 : 3);
    }

    private static void chosenMatches(boolean on) {
        Run m = folded(on, "AB");
        due("scan", Check.scan(m, "xab"), on ? 1 : 0);
        due("coveredBytes", m.coveredBytes(), on ? 2 : 0);
        due("coverWeight", m.coverWeight(), on ? 1 : 0);
        due("coverSize", m.coverSize(), on ? 1 : 0);
        due("coverStart", m.coverStart(0), on ? 1 : NONE);
        due("coverKeyword", m.coverKeyword(0), on ? 0 : NONE);
        due("longestSize", m.longestSize(), on ? 1 : 0);
        due("longestStart", m.longestStart(0), on ? 1 : NONE);
        due("longestKeyword", m.longestKeyword(0), on ? 0 : NONE);
    }

    /** The setting of the moment counts, not the one under which a keyword was added. */
    private static void removedKeywords() {
        Run m = folded(false, "xA", "ay");
        due("off", m.overlapLength(0, 1), 0);
        due("remove", m.removeKeyword(0) + m.removeKeyword(1), 1);
        due("on", m.setFolding(true), 0);
        due("on", m.overlapLength(0, 1), 1);
        due("off", m.setFolding(false), 1);
        due("off", m.overlapLength(0, 1), 0);
    }
}
