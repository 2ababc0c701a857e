/** Boundary cases of the stream and of the reports: promises 22 to 28. */
final class StreamEdges extends Edges {
    private StreamEdges() {
    }

    static void run() {
        streamLimit();
        allBytes();
        positions();
        whatAMatchIs();
        reportedAtTheMoment();
        reportOrder();
        storedReports();
        laterMethods();
        scanning();
        scannedLength();
        scannedBuffer();
        scannedFull();
        emptying();
        streamBytes();
        reportCounts();
        reportEnds();
        reportKeywords();
    }

    /** A matcher whose stream has so many bytes, "x" each. */
    private static Run streamOf(int length, String... texts) {
        return scanned("x".repeat(length), texts);
    }

    private static void streamLimit() {
        says("D3", "The stream is a sequence of at most 600 bytes");
        Run m = streamOf(599);
        due("599", m.streamLength(), 599);
        due("two more", Check.scan(m, "yy"), FULL);
        due("599", m.streamLength(), 599);
        due("one more", Check.scan(m, "y"), 0);
        due("600", m.streamLength(), 600);
        due("the last byte", m.streamByte(599), 'y');
        due("one more", Check.scan(m, "z"), FULL);
        due("600", m.streamLength(), 600);
    }

    private static void allBytes() {
        says("D3", "all byte values from 0 to 255 may occur");
        StringBuilder all = new StringBuilder();
        for (int value = 0; value <= 255; value++) {
            all.append((char) value);
        }
        Run m = scanned(all.toString(), "!", "~", "}~");
        due("length", m.streamLength(), 256);
        dueAll("byte", 0, 255, m::streamByte, i -> i);
        due("reports", m.reportCount(), 3);
        due("the lowest byte of a keyword", m.nextMatch(0, 0), 33);
        due("the highest byte of a keyword", m.nextMatch(1, 0), 126);
        due("a gap of the highest bytes", m.gapLength(), 129);
        due("its start", m.gapStart(), 127);
    }

    private static void positions() {
        says("D3", "Positions start at 0");
        Run m = scanned("ab", "a", "b");
        due("the first byte", m.streamByte(0), 'a');
        due("the first match", m.nextMatch(0, 0), 0);
        due("the first report", m.reportEnd(0), 0);
        due("the second report", m.reportEnd(1), 1);

        says("D3", "Scanning appends bytes to the stream");
        Run n = new Run();
        due("scan", Check.scan(n, "ab"), 0);
        due("scan", Check.scan(n, "cd"), 0);
        dueAll("byte", 0, 4, n::streamByte, i -> i < 4 ? 'a' + i : NONE);
    }

    private static void whatAMatchIs() {
        says("D3", "A match is an occurrence of a live keyword in the stream");
        Run m = scanned("aaaa", "aa", "aaaa", "aaaaa", "b");
        due("overlapping ones", m.matchCountOf(0), 3);
        due("the whole stream", m.matchCountOf(1), 1);
        due("longer than the stream", m.matchCountOf(2), 0);
        due("not there", m.matchCountOf(3), 0);
        due("remove", m.removeKeyword(0), 3);
        due("not live", m.matchCount(), 1);

        says("D3", "It has a start, which is the position of its first byte, and an end");
        Run n = scanned("x" + SIXTEEN, SIXTEEN, "p");
        due("start", n.nextMatch(0, 0), 1);
        due("end", n.reportEnd(0), 16);
        due("start of one byte", n.nextMatch(1, 0), 16);
        due("end of one byte", n.reportEnd(1), 16);
    }

    private static void reportedAtTheMoment() {
        says("D3", "While a byte is appended, all matches that end at this byte are reported");
        Run m = new Run();
        for (int n = 1; n <= 16; n++) {
            due("add", Check.add(m, "a".repeat(n), 1), n - 1);
        }
        for (int n = 1; n <= 20; n++) {
            due("at byte " + n, Check.scan(m, "a"), Math.min(n, 16));
        }
        due("remove", m.removeKeyword(15), 15);
        due("not by a removed one", Check.scan(m, "a"), 15);
        due("add again", Check.add(m, "a".repeat(16), 1), 16);
        due("by the new one", Check.scan(m, "a"), 16);
        due("the other byte", Check.scan(m, "b"), 0);

        says("D3", "a match may have started before its keyword was added");
        Run n = new Run();
        due("scan", Check.scan(n, SIXTEEN.substring(0, 15)), 0);
        due("add", Check.add(n, SIXTEEN, 1), 0);
        due("the last byte", Check.scan(n, "p"), 1);
        Run late = new Run();
        due("scan", Check.scan(late, "ab"), 0);
        due("add", Check.add(late, "ab", 1), 0);
        due("one that has ended is not reported", late.reportCount(), 0);
        due("but is a match", late.matchCount(), 1);
    }

    private static void reportOrder() {
        says("D3", "Reports have the order of their ends");
        Run m = scanned("abc", "c", "b", "a", "abc", "ab");
        int[] ends = {0, 1, 1, 2, 2};
        int[] numbers = {2, 4, 1, 3, 0};
        dueAll("end", 0, 4, m::reportEnd, i -> ends[i]);
        dueAll("keyword", 0, 4, m::reportKeyword, i -> numbers[i]);

        says("D3", "reports with equal ends are ordered by decreasing length of the keyword");
        Run n = new Run();
        int[] lengths = {3, 16, 1, 8, 15, 2};
        for (int i = 0; i < lengths.length; i++) {
            due("add", Check.add(n, "a".repeat(lengths[i]), 1), i);
        }
        due("scan", Check.scan(n, "a".repeat(15)), 15 + 14 + 13 + 8 + 1);
        due("reset", n.resetStream(), 15);
        due("scan", Check.scan(n, "a".repeat(16)), 16 + 15 + 14 + 9 + 2 + 1);
        int[] byLength = {1, 4, 3, 0, 5, 2};
        dueAll("keyword", 51, 56, n::reportKeyword, i -> byLength[i - 51]);
        dueAll("end", 51, 56, n::reportEnd, i -> 15);
    }

    private static void storedReports() {
        says("D3", "The first 300 reports since the stream was last emptied are stored");
        for (int length : new int[] {299, 300, 301}) {
            Run m = scanned("x".repeat(length), "x");
            due("reports", m.reportCount(), length);
            due("number 298", m.reportEnd(298), 298);
            due("number 299", m.reportEnd(299), length > 299 ? 299 : NONE);
            due("number 299", m.reportKeyword(299), length > 299 ? 0 : NONE);
            due("number 300", m.reportEnd(300), NONE);
            due("number 300", m.reportKeyword(300), NONE);
            due("reset", m.resetStream(), length);
            scanAll(m, "x".repeat(300));
            due("the last one of the next stream", m.reportEnd(299), 299);
        }
        Run cut = new Run();
        for (int n = 1; n <= 16; n++) {
            due("add", Check.add(cut, "a".repeat(n), 1), n - 1);
        }
        due("scan", Check.scan(cut, "a".repeat(100)), 1480);
        due("end of the last one", cut.reportEnd(299), 26);
        due("only the first four of that byte", cut.reportKeyword(299), 12);
        due("the first one of that byte", cut.reportKeyword(296), 15);
        due("the next one is not stored", cut.reportKeyword(300), NONE);

        says("D3", "further reports are only counted");
        due("counted", cut.reportCount(), 1480);
        due("scan", Check.scan(cut, "aa"), 32);
        due("counted", cut.reportCount(), 1512);
        due("not stored", cut.reportEnd(300), NONE);
        due("nor the last one", cut.reportEnd(1511), NONE);
        due("the stored ones stay", cut.reportEnd(299), 26);
    }

    private static void laterMethods() {
        says("D3", "All other methods that speak of matches use the whole stream and the keywords that are live");
        Run m = scanned("abcab");
        due("none", m.matchCount(), 0);
        due("add", Check.add(m, "ab", 1), 0);
        due("matchCount", m.matchCount(), 2);
        due("matchCountOf", m.matchCountOf(0), 2);
        due("nextMatch", m.nextMatch(0, 0), 0);
        due("gapLength", m.gapLength(), 1);
        due("maximumDepth", m.maximumDepth(), 1);
        due("coveredBytes", m.coveredBytes(), 4);
        due("longestSize", m.longestSize(), 2);
        due("add", Check.add(m, "abc", 1), 1);
        due("overlappingPairs", m.overlappingPairs(), 1);
        due("containedMatches", m.containedMatches(), 1);
        due("longestKeyword", m.longestKeyword(0), 1);
        due("coverKeyword", m.coverKeyword(0), 1);
        due("remove", m.removeKeyword(1), 1);
        due("overlappingPairs", m.overlappingPairs(), 0);
        due("containedMatches", m.containedMatches(), 0);
        due("longestKeyword", m.longestKeyword(0), 0);
        due("coverKeyword", m.coverKeyword(0), 0);
        due("no reports", m.reportCount(), 0);
        Run n = new Run();
        scanAll(n, "a" + "x".repeat(598) + "a");
        due("add", Check.add(n, "a", 1), 0);
        due("the first and the last byte", n.matchCount(), 2);
        due("the last byte", n.nextMatch(0, 1), 599);
    }

    private static void scanning() {
        says("P22", "Scans the first n bytes of the text buffer");
        Run m = with("ab");
        Check.feed(m, "abab");
        due("three of four", m.scan(3), 1);
        due("three bytes", m.streamLength(), 3);
        due("the others are gone", m.bufferLength(), 0);
        due("scan", Check.scan(m, "b"), 1);
        due("across two calls", m.nextMatch(0, 1), 2);
        Run n = with(SIXTEEN);
        for (int i = 0; i < 16; i++) {
            due("one byte a call", Check.scan(n, SIXTEEN.substring(i, i + 1)), i / 15);
        }

        says("P22", "Returns the number of matches reported by this call");
        Run all = new Run();
        for (int k = 1; k <= 16; k++) {
            due("add", Check.add(all, "a".repeat(k), 1), k - 1);
        }
        due("200 bytes", Check.scan(all, "a".repeat(200)), 16 * 200 - 120);
        due("200 more", Check.scan(all, "a".repeat(200)), 16 * 200);
        due("no bytes", Check.scan(all, ""), 0);
        due("no match", Check.scan(all, "b"), 0);
        due("no keywords", Check.scan(new Run(), "a"), 0);
    }

    private static void scannedLength() {
        says("P22", "`n`: number of bytes, 0 to the length of the buffer");
        for (int length = 0; length <= 200; length += 20) {
            Run m = new Run();
            fill(m, length);
            due("n = -1", m.scan(-1), BAD_VALUE);
            due("n one above " + length, m.scan(length + 1), BAD_VALUE);
            due("n = " + length, m.scan(length), 0);
            due("streamLength", m.streamLength(), length);
            fill(m, length);
            due("n = 0", m.scan(0), 0);
            due("streamLength", m.streamLength(), length);
        }

        says("P22", "BAD_VALUE if n is out of range");
        Run m = streamOf(600);
        fill(m, 20);
        dueBelow("n", m::scan, BAD_VALUE);
        dueAbove("n", m::scan, BAD_VALUE);
        due("BAD_VALUE before FULL", m.scan(21), BAD_VALUE);
        due("an empty buffer", new Run().scan(1), BAD_VALUE);
    }

    private static void scannedBuffer() {
        says("P22", "The buffer is empty afterwards, unless BAD_VALUE is returned");
        Run m = new Run();
        fill(m, 40);
        due("BAD_VALUE", m.scan(41), BAD_VALUE);
        due("is kept", m.bufferLength(), 40);
        due("BAD_VALUE", m.scan(-1), BAD_VALUE);
        due("is kept", m.bufferLength(), 40);
        due("one byte", m.scan(1), 0);
        due("is empty", m.bufferLength(), 0);
        fill(m, 40);
        due("no bytes", m.scan(0), 0);
        due("is empty", m.bufferLength(), 0);
        Run full = streamOf(600);
        fill(full, 40);
        due("FULL", full.scan(1), FULL);
        due("is empty after FULL", full.bufferLength(), 0);
    }

    private static void scannedFull() {
        says("P22", "FULL if the stream would have more than 600 bytes");
        for (int before = 390; before <= 600; before += 10) {
            for (int n = Math.max(0, 599 - before); n <= Math.min(200, 601 - before); n++) {
                Run m = streamOf(before, "x");
                fill(m, n);
                due(n + " to " + before, m.scan(n), before + n > 600 ? FULL : 0);
                due("streamLength", m.streamLength(), before + n > 600 ? before : before + n);
                due("reportCount", m.reportCount(), before);
            }
        }
        Run m = streamOf(401, "k");
        fill(m, 200);
        due("601", m.scan(200), FULL);
        due("nothing of it is scanned", m.streamLength(), 401);
        due("nothing of it is reported", m.reportCount(), 0);
        fill(m, 200);
        due("600", m.scan(199), 199);
        due("no byte to a full stream", m.scan(0), 0);
        due("reset", m.resetStream(), 600);
        due("there is room again", Check.scan(m, "k".repeat(200)), 200);
    }

    private static void emptying() {
        says("P23", "Empties the stream and the stored reports");
        Run m = scanned("abab", "ab");
        fill(m, 20);
        due("resetStream", m.resetStream(), 4);
        due("streamLength", m.streamLength(), 0);
        due("streamByte", m.streamByte(0), NONE);
        due("reportCount", m.reportCount(), 0);
        due("reportEnd", m.reportEnd(0), NONE);
        due("reportKeyword", m.reportKeyword(0), NONE);
        due("matchCount", m.matchCount(), 0);
        due("nextMatch", m.nextMatch(0, 0), NONE);
        due("gapLength", m.gapLength(), 0);
        due("coverSize", m.coverSize(), 0);
        due("longestSize", m.longestSize(), 0);
        due("currentDepth", m.currentDepth(0), 0);
        due("fewestMismatches", m.fewestMismatches(0), NONE);
        due("the buffer is kept", m.bufferLength(), 20);
        due("the keywords are kept", m.liveCount(), 1);
        due("the work is kept", m.buildWork(), 1);
        due("find", m.findKeyword(0), NONE);
        due("scan", Check.scan(m, "b"), 0);
        due("no match goes across the reset", m.matchCount(), 0);
        staleBytes();

        says("P23", "Returns the previous length of the stream");
        due("one byte", m.resetStream(), 1);
        due("none", m.resetStream(), 0);
        due("a new object", new Run().resetStream(), 0);
        due("all bytes", streamOf(600).resetStream(), 600);
    }

    /** What stood behind the new end before the stream was emptied is no part of it any more. */
    private static void staleBytes() {
        Run m = scanned("xabc");
        due("reset", m.resetStream(), 4);
        due("scan", Check.scan(m, "xa"), 0);
        due("add", Check.add(m, "ab", 1), 0);
        due("add", Check.add(m, "xabc", 1), 1);
        due("matchCount", m.matchCount(), 0);
        due("matchCountOf", m.matchCountOf(0), 0);
        due("nextMatch", m.nextMatch(0, 0), NONE);
        due("gapLength", m.gapLength(), 2);
        due("fewestMismatches", m.fewestMismatches(0), 2);
        due("nearMatchCount", m.nearMatchCount(1, 3), 0);
        due("nearestStart", m.nearestStart(1), NONE);
        due("coverSize", m.coverSize(), 0);
        due("longestSize", m.longestSize(), 0);
        due("currentDepth", m.currentDepth(1), 2);
        due("streamByte", m.streamByte(2), NONE);
    }

    private static void streamBytes() {
        says("P24", "Returns the length of the stream", "Returns the number of bytes");
        Run m = new Run();
        due("empty", m.streamLength(), 0);
        due("scan", Check.scan(m, "x"), 0);
        due("one byte", m.streamLength(), 1);
        due("scan", Check.scan(m, "x".repeat(200)), 0);
        due("more bytes", m.streamLength(), 201);
        due("full", streamOf(600).streamLength(), 600);

        says("P25", "Returns a byte of the stream", "Returns the byte, 0 to 255", "`position`: position");
        Run full = scanned((char) 0 + "x".repeat(598) + (char) 255);
        due("the first", full.streamByte(0), 0);
        due("the second", full.streamByte(1), 'x');
        due("the last but one", full.streamByte(598), 'x');
        due("the last", full.streamByte(599), 255);
        says("P25", "NONE if the position is not below the length of the stream");
        dueAll("behind 600", 600, 650, full::streamByte, i -> NONE);
        dueAbove("far behind", full::streamByte, NONE);
        Run two = scanned("ab");
        dueAll("behind two", 0, 3, two::streamByte, i -> i < 2 ? 'a' + i : NONE);
        due("an empty stream", new Run().streamByte(0), NONE);
        due("reset", two.resetStream(), 2);
        due("an emptied stream", two.streamByte(0), NONE);
        says("P25", "BAD_VALUE if the position is negative");
        dueBelow("of a full stream", full::streamByte, BAD_VALUE);
        dueBelow("of an empty stream", new Run()::streamByte, BAD_VALUE);
    }

    private static void reportCounts() {
        says("P26", "Returns the number of reports since the stream was last emptied", "Returns the number of reports.");
        Run m = with("a", "aa");
        due("none", m.reportCount(), 0);
        due("scan", Check.scan(m, "a"), 1);
        due("one", m.reportCount(), 1);
        due("scan", Check.scan(m, "a".repeat(150)), 300);
        due("301", m.reportCount(), 301);
        due("remove", m.removeKeyword(0), 1);
        due("it stays after a removal", m.reportCount(), 301);
        due("remove", m.removeKeyword(1), 0);
        due("it stays after a rebuild", m.reportCount(), 301);
        due("reset", m.resetStream(), 151);
        due("none", m.reportCount(), 0);
        Run most = new Run();
        for (int k = 1; k <= 16; k++) {
            due("add", Check.add(most, "a".repeat(k), 1), k - 1);
        }
        scanAll(most, "a".repeat(600));
        due("the most", most.reportCount(), 16 * 600 - 120);
    }

    private static void reportEnds() {
        Run m = scanned("xababx", "ab", "b");
        says("P27", "Returns the end of a stored report", "Returns the position of the last byte of the match",
                "`index`: index of the report, from 0");
        int[] ends = {2, 2, 4, 4};
        dueAll("reportEnd", 0, 3, m::reportEnd, i -> ends[i]);
        due("the last position", scanned("x".repeat(599) + "a", "a").reportEnd(0), 599);
        says("P27", "NONE if there is no such stored report");
        dueAll("behind the last", 4, 20, m::reportEnd, i -> NONE);
        dueAll("behind the last", 299, 301, m::reportEnd, i -> NONE);
        dueAbove("far behind", m::reportEnd, NONE);
        due("no reports", new Run().reportEnd(0), NONE);
        Run many = scanned("a".repeat(600), "a");
        dueAll("only 300 are stored", 290, 610, many::reportEnd, i -> i < 300 ? i : NONE);
        says("P27", "BAD_VALUE if the index is negative");
        dueBelow("reportEnd", m::reportEnd, BAD_VALUE);
        dueBelow("no reports", new Run()::reportEnd, BAD_VALUE);
    }

    private static void reportKeywords() {
        Run m = scanned("xababx", "ab", "b");
        says("P28", "Returns the keyword of a stored report", "Returns the number of the keyword",
                "`index`: index of the report, from 0");
        dueAll("reportKeyword", 0, 3, m::reportKeyword, i -> i % 2);
        Run last = given(119, 0);
        due("the highest number", Check.add(last, "q", 1), 119);
        due("scan", Check.scan(last, "q"), 1);
        due("the highest number", last.reportKeyword(0), 119);
        says("P28", "The keyword may have been removed since");
        due("remove", m.removeKeyword(0) + m.removeKeyword(1), 1);
        dueAll("reportKeyword", 0, 3, m::reportKeyword, i -> i % 2);
        due("add an equal one", Check.add(m, "ab", 1), 2);
        due("the old number stays", m.reportKeyword(0), 0);
        says("P28", "NONE if there is no such stored report");
        dueAll("behind the last", 4, 20, m::reportKeyword, i -> NONE);
        dueAll("behind the last", 299, 301, m::reportKeyword, i -> NONE);
        dueAbove("far behind", m::reportKeyword, NONE);
        due("no reports", new Run().reportKeyword(0), NONE);
        Run many = scanned("a".repeat(600), "a");
        dueAll("only 300 are stored", 290, 610, many::reportKeyword, i -> i < 300 ? 0 : NONE);
        says("P28", "BAD_VALUE if the index is negative");
        dueBelow("reportKeyword", m::reportKeyword, BAD_VALUE);
        dueBelow("no reports", new Run()::reportKeyword, BAD_VALUE);
    }
}
