/** Boundary cases of the whole object, of the text buffer and of the keywords: promises 1 to 12. */
final class KeywordEdges extends Edges {
    private KeywordEdges() {
    }

    static void run() {
        lastCalls();
        constants();
        newObject();
        bufferBytes();
        bufferLimit();
        keywordTexts();
        weights();
        numbers();
        allNumbers();
        fortyLive();
        liveSpan();
        neverEqual();
        addedLength();
        addedBuffer();
        addedAnswers();
        addedFull();
        removing();
        finding();
        foundLength();
        lengthsAndWeights();
        keywordBytes();
        livingOrRemoved();
        foldingSetting();
        foldingBusy();
    }

    private static void padTo(Run m, int calls) {
        while (m.calls() < calls) {
            due("liveCount", m.liveCount(), 1);
        }
    }

    private static void lastCalls() {
        says("W", "An object is used for at most 512 calls", "what later calls answer is free");
        Run scanning = with("ab");
        padTo(scanning, 510);
        Check.feed(scanning, "xabab");
        due("scan as call 512", scanning.scan(5), 2);
        Run adding = with("ab");
        padTo(adding, 510);
        Check.feed(adding, "xab");
        due("addKeyword as call 512", adding.addKeyword(3, 1), 1);
        Run removing = with("ab");
        padTo(removing, 511);
        due("removeKeyword as call 512", removing.removeKeyword(0), 0);
        Run covering = scanned("xababx", "ab");
        padTo(covering, 511);
        due("coveredBytes as call 512", covering.coveredBytes(), 4);
        Run joining = with("ab");
        padTo(joining, 511);
        due("superstringLength as call 512", joining.superstringLength(), 2);
        Run refusing = with("ab");
        padTo(refusing, 511);
        due("a refused call as call 512", refusing.setFolding(true), BUSY);

        says("W", "A multi-pattern string matcher");
        Run changing = new Run();
        for (int i = 0; i < 102; i++) {
            due("add", Check.add(changing, pair(i), 1), i);
            due("scan", Check.scan(changing, pair(i)), 1);
            due("remove", changing.removeKeyword(i), 0);
        }
        due("reports", changing.reportCount(), 102);
        due("rebuilds as call 512", changing.rebuildCount(), 102);
        due("calls", changing.calls(), 512);
    }

    private static void constants() {
        says("C", "`NONE = -1`");
        due("NONE", KeywordMatcher.NONE, -1);
        due("no such result", new Run().coverStart(0), KeywordMatcher.NONE);
        says("C", "`NO_SUCH = -2`");
        due("NO_SUCH", KeywordMatcher.NO_SUCH, -2);
        due("no keyword", new Run().isLive(0), KeywordMatcher.NO_SUCH);
        says("C", "`BAD_VALUE = -3`");
        due("BAD_VALUE", KeywordMatcher.BAD_VALUE, -3);
        due("out of range", new Run().scan(1), KeywordMatcher.BAD_VALUE);
        says("C", "`BAD_TEXT = -4`");
        due("BAD_TEXT", KeywordMatcher.BAD_TEXT, -4);
        due("no keyword", new Run().addKeyword(0, 1), KeywordMatcher.BAD_TEXT);
        says("C", "`DUPLICATE = -5`");
        due("DUPLICATE", KeywordMatcher.DUPLICATE, -5);
        due("an equal one", Check.add(with("a"), "a", 1), KeywordMatcher.DUPLICATE);
        says("C", "`FULL = -6`");
        due("FULL", KeywordMatcher.FULL, -6);
        due("a capacity", Check.feed(new Run(), "k".repeat(201)), KeywordMatcher.FULL);
        says("C", "`BUSY = -7`");
        due("BUSY", KeywordMatcher.BUSY, -7);
        due("a live keyword", with("a").setFolding(true), KeywordMatcher.BUSY);
    }

    private static void newObject() {
        says("P1", "Creates a matcher without keywords");
        Run m = new Run();
        due("liveCount", m.liveCount(), 0);
        due("isLive", m.isLive(0), NO_SUCH);
        due("streamLength", m.streamLength(), 0);
        due("streamByte", m.streamByte(0), NONE);
        due("bufferLength", m.bufferLength(), 0);
        due("scan", m.scan(1), BAD_VALUE);
        due("reportCount", m.reportCount(), 0);
        due("reportEnd", m.reportEnd(0), NONE);
        due("buildWork", m.buildWork(), 0);
        due("rebuildCount", m.rebuildCount(), 0);
        dueAll("mainSize", 0, 6, m::mainSize, level -> 0);
        dueAll("removalSize", 0, 6, m::removalSize, level -> 0);
        dueAll("stateCount", 0, 6, m::stateCount, level -> NONE);
        dueAll("currentDepth", 0, 6, m::currentDepth, level -> NONE);
        due("matchCount", m.matchCount(), 0);
        due("overlappingPairs", m.overlappingPairs(), 0);
        due("maximumDepth", m.maximumDepth(), 0);
        due("containedMatches", m.containedMatches(), 0);
        due("superstringLength", m.superstringLength(), 0);
        due("coverSize", m.coverSize(), 0);
        due("longestSize", m.longestSize(), 0);
        due("the first keyword", Check.add(m, "a", 1), 0);
        due("another new object", new Run().liveCount(), 0);

        says("P1", "Folding is off");
        due("setFolding", new Run().setFolding(true), 0);
        Run two = with("A", "a");
        due("two keywords", two.liveCount(), 2);
        due("scan", Check.scan(two, "aA"), 2);
    }

    private static void bufferBytes() {
        says("P2", "Appends 20 bytes to the text buffer");
        Run m = new Run();
        due("appendBytes", m.appendBytes(0x00017F80, 0x81FEFF00, LOWEST, HIGHEST, -1), 20);
        due("scan", m.scan(20), 0);
        int[] want = {0, 1, 127, 128, 129, 254, 255, 0, 128, 0, 0, 0, 127, 255, 255, 255, 255, 255, 255, 255};
        dueAll("byte", 0, 19, m::streamByte, i -> want[i]);
        due("no byte more", m.streamByte(20), NONE);

        says("P2", "`a`: first four bytes");
        dueFour(0, 0x01020304, 0, 0, 0, 0);
        says("P2", "`b`: next four bytes");
        dueFour(4, 0, 0x01020304, 0, 0, 0);
        says("P2", "`c`: next four bytes");
        dueFour(8, 0, 0, 0x01020304, 0, 0);
        says("P2", "`d`: next four bytes");
        dueFour(12, 0, 0, 0, 0x01020304, 0);
        says("P2", "`e`: last four bytes");
        dueFour(16, 0, 0, 0, 0, 0x01020304);
    }

    private static void dueFour(int from, int a, int b, int c, int d, int e) {
        Run m = new Run();
        due("appendBytes", m.appendBytes(a, b, c, d, e), 20);
        due("scan", m.scan(20), 0);
        dueAll("byte", 0, 19, m::streamByte, i -> i >= from && i < from + 4 ? i - from + 1 : 0);
    }

    private static void bufferLimit() {
        says("P2", "Returns the new length of the buffer");
        Run m = new Run();
        for (int length = 20; length <= 200; length += 20) {
            due("appendBytes", Check.append(m, "" + (char) length, 0), length);
        }
        says("P2", "FULL if the length would exceed 200");
        due("at 200", Check.append(m, "x", 0), FULL);
        due("at 200 again", Check.append(m, "y", 0), FULL);
        due("still 200", m.bufferLength(), 200);
        due("scan", m.scan(200), 0);
        dueAll("the bytes are those before", 0, 199, m::streamByte, i -> i % 20 == 0 ? i + 20 : 0);
        due("the next byte", m.streamByte(200), NONE);
        due("there is room again", Check.append(m, "z", 0), 20);

        says("P3", "Returns the length of the text buffer", "Returns the number of bytes");
        Run n = new Run();
        for (int length = 0; length <= 200; length += 20) {
            due("bufferLength", n.bufferLength(), length);
            Check.append(n, "k", 0);
        }
        due("after FULL", n.bufferLength(), 200);
        due("it is kept", n.bufferLength(), 200);
        due("scan", n.scan(1), 0);
        due("after a scan", n.bufferLength(), 0);
    }

    private static boolean isKeywordByte(int value) {
        return value >= 33 && value <= 126;
    }

    private static void keywordTexts() {
        says("D1", "A keyword is a sequence of 1 to 16 bytes from 33 to 126");
        for (int n = 0; n <= 200; n++) {
            Run m = new Run();
            fill(m, 200);
            due("add of " + n + " bytes", m.addKeyword(n, 1), n >= 1 && n <= 16 ? 0 : BAD_TEXT);
            due("its length", m.keywordLength(0), n >= 1 && n <= 16 ? n : NO_SUCH);
        }
        for (int value = 0; value <= 255; value++) {
            int want = isKeywordByte(value) ? 0 : BAD_TEXT;
            String one = "" + (char) value;
            due("byte " + value + " alone", Check.add(new Run(), one, 1), want);
            due("byte " + value + " first", Check.add(new Run(), one + "k".repeat(15), 1), want);
            due("byte " + value + " inside", Check.add(new Run(), "k".repeat(8) + one + "kk", 1), want);
            due("byte " + value + " last", Check.add(new Run(), "k".repeat(15) + one, 1), want);
            due("byte " + value + " behind", addShort("k" + one), 0);
        }
    }

    /** Adds the text without its last byte. */
    private static int addShort(String text) {
        Run m = new Run();
        Check.feed(m, text);
        return m.addKeyword(text.length() - 1, 1);
    }

    private static void weights() {
        says("D1", "It has a number and a weight from 1 to 99");
        Run m = new Run();
        fill(m, 20);
        for (int weight = 0; weight >= -30; weight--) {
            due("weight " + weight, m.addKeyword(1, weight), BAD_VALUE);
        }
        dueAll("weight", 100, 300, weight -> m.addKeyword(1, weight), weight -> BAD_VALUE);
        for (int weight = 1; weight <= 99; weight++) {
            Run one = new Run();
            due("weight " + weight, Check.add(one, "k", weight), 0);
            due("weight " + weight, one.keywordWeight(0), weight);
        }

        says("P4", "`weight`: weight, 1 to 99");
        for (int weight : new int[] {LOWEST, -1, 0, 100, HIGHEST}) {
            due("weight " + weight, m.addKeyword(1, weight), BAD_VALUE);
        }
        due("weight 1", m.addKeyword(1, 1), 0);
        due("weight 99", Check.add(m, "kk", 99), 1);
    }

    private static void numbers() {
        says("D1", "Numbers are given out from 0 on and are never reused");
        Run m = new Run();
        due("BAD_VALUE", m.addKeyword(1, 1), BAD_VALUE);
        due("BAD_TEXT", Check.add(m, " ", 1), BAD_TEXT);
        due("the first one", Check.add(m, "a", 1), 0);
        due("DUPLICATE", Check.add(m, "a", 1), DUPLICATE);
        due("takes no number", Check.add(m, "b", 2), 1);
        due("remove", m.removeKeyword(1), 1);
        due("the same text, another number", Check.add(m, "b", 3), 2);
        due("remove the first", m.removeKeyword(0), 1);
        due("a new number", Check.add(m, "c", 4), 3);
        due("remove all", m.removeKeyword(2) + m.removeKeyword(3), 1);
        due("a new number after a rebuild", Check.add(m, "a", 5), 4);
        dueAll("the old ones stay removed", 0, 3, m::isLive, k -> 0);
        dueAll("the old ones keep their weights", 0, 4, m::keywordWeight, k -> k + 1);
        due("FULL takes no number", Check.add(crowd(40), "z", 1), FULL);
        Run full = crowd(40);
        due("FULL", Check.add(full, "z", 1), FULL);
        due("remove", full.removeKeyword(39), 39);
        due("the next number", Check.add(full, "z", 1), 40);
    }

    private static void allNumbers() {
        says("D1", "at most 120 numbers are given out");
        Run none = given(120, 0);
        due("the last number", none.isLive(119), 0);
        due("none behind it", none.isLive(120), NO_SUCH);
        due("the 121st", Check.add(none, "a", 1), FULL);
        due("again", Check.add(none, "b", 1), FULL);
        due("none behind it", none.isLive(120), NO_SUCH);
        due("none is live", none.liveCount(), 0);
        Run many = given(119, 39);
        due("the 120th, the fortieth live one", Check.add(many, "a", 1), 119);
        due("remove", many.removeKeyword(119), 39);
        due("no number is left", Check.add(many, "a", 1), FULL);
        due("the last one can be asked for", many.keywordLength(119), 1);
        Run last = given(119, 0);
        due("the last number, the longest text", Check.add(last, SIXTEEN, 99), 119);
        due("its length", last.keywordLength(119), 16);
        dueAll("its bytes", 0, 16, i -> last.keywordByte(119, i), i -> i < 16 ? 'a' + i : NONE);
        due("it is found", Check.find(last, SIXTEEN), 119);
        due("it is reported", Check.scan(last, SIXTEEN), 1);
        due("its states", last.stateCount(0), 17);
        due("its failure length", last.failureLength(119, 16), 0);
        due("its overlap", last.overlapLength(119, 118), 0);
        due("its superstring", last.superstringLength(), 16);
    }

    private static void fortyLive() {
        says("D1", "At most 40 keywords are live at the same time");
        Run m = crowd(39);
        due("39", m.liveCount(), 39);
        due("the fortieth", Check.add(m, "z", 1), 39);
        due("40", m.liveCount(), 40);
        due("one more", Check.add(m, "y", 1), FULL);
        due("still 40", m.liveCount(), 40);
        due("remove one", m.removeKeyword(0), 39);
        due("one more now", Check.add(m, "y", 1), 40);
        due("no one more", Check.add(m, "x", 1), FULL);
    }

    private static void liveSpan() {
        says("D1", "A keyword is live from the moment it is added until it is removed");
        Run m = new Run();
        due("before", m.isLive(0), NO_SUCH);
        due("scan before", Check.scan(m, "ab"), 0);
        due("add", Check.add(m, "ab", 1), 0);
        due("after", m.isLive(0), 1);
        due("found", Check.find(m, "ab"), 0);
        due("scan", Check.scan(m, "ab"), 1);
        due("remove", m.removeKeyword(0), 0);
        due("no more", m.isLive(0), 0);
        due("not found", Check.find(m, "ab"), NONE);
        due("scan", Check.scan(m, "ab"), 0);
        due("no matches", m.matchCount(), 0);
    }

    private static void neverEqual() {
        says("D1", "Two live keywords are never equal");
        Run m = with("ab", SIXTEEN);
        due("two bytes", Check.add(m, "ab", 9), DUPLICATE);
        due("sixteen bytes", Check.add(m, SIXTEEN, 9), DUPLICATE);
        due("a prefix", Check.add(m, "a", 1), 2);
        due("one byte more", Check.add(m, "abc", 1), 3);
        due("fifteen bytes", Check.add(m, SIXTEEN.substring(0, 15), 1), 4);
        due("another last byte", Check.add(m, SIXTEEN.substring(0, 15) + "q", 1), 5);
        due("another first byte", Check.add(m, "bb", 1), 6);
        due("another case", Check.add(m, "aB", 1), 7);
        due("remove", m.removeKeyword(0), 7);
        due("a removed one does not count", Check.add(m, "ab", 1), 8);
        due("now it is there again", Check.add(m, "ab", 1), DUPLICATE);
    }

    private static void addedLength() {
        says("P4", "`n`: number of bytes, 0 to the length of the buffer");
        for (int length = 0; length <= 200; length += 20) {
            Run m = new Run();
            fill(m, length);
            due("n = -1", m.addKeyword(-1, 1), BAD_VALUE);
            due("n one above " + length, m.addKeyword(length + 1, 1), BAD_VALUE);
            due("n = " + length, m.addKeyword(length, 1), BAD_TEXT);
            fill(m, length);
            due("n = 0", m.addKeyword(0, 1), BAD_TEXT);
        }

        says("P4", "BAD_VALUE if n or weight is out of range");
        Run m = new Run();
        fill(m, 20);
        dueBelow("n", n -> m.addKeyword(n, 1), BAD_VALUE);
        dueAbove("n", n -> m.addKeyword(n, 1), BAD_VALUE);
        dueBelow("weight", weight -> m.addKeyword(1, weight), BAD_VALUE);
        dueAbove("weight", weight -> m.addKeyword(1, weight), BAD_VALUE);
        due("both", m.addKeyword(21, 0), BAD_VALUE);
        due("a bad weight of no bytes", m.addKeyword(0, 0), BAD_VALUE);
        due("a bad weight of seventeen bytes", m.addKeyword(17, 100), BAD_VALUE);
        due("the bytes are still there", m.addKeyword(16, 1), 0);
        fill(m, 20);
        due("a bad weight of an equal one", m.addKeyword(16, 0), BAD_VALUE);
        Run full = crowd(40);
        due("a bad value with 40 live ones", full.addKeyword(1, 1), BAD_VALUE);
        Run old = given(120, 0);
        due("a bad value without a number left", old.addKeyword(0, 0), BAD_VALUE);
    }

    private static void addedBuffer() {
        says("P4", "The buffer is empty afterwards, unless BAD_VALUE is returned");
        Run m = new Run();
        fill(m, 40);
        due("BAD_VALUE", m.addKeyword(41, 1), BAD_VALUE);
        due("is kept", m.bufferLength(), 40);
        due("BAD_VALUE", m.addKeyword(1, 0), BAD_VALUE);
        due("is kept", m.bufferLength(), 40);
        due("add of one byte", m.addKeyword(1, 1), 0);
        due("all 40 are gone", m.bufferLength(), 0);
        fill(m, 40);
        due("DUPLICATE", m.addKeyword(1, 1), DUPLICATE);
        due("is empty", m.bufferLength(), 0);
        fill(m, 40);
        due("BAD_TEXT", m.addKeyword(40, 1), BAD_TEXT);
        due("is empty", m.bufferLength(), 0);
        fill(m, 40);
        due("BAD_TEXT of no bytes", m.addKeyword(0, 1), BAD_TEXT);
        due("is empty", m.bufferLength(), 0);
        Run full = crowd(40);
        fill(full, 40);
        due("FULL", full.addKeyword(1, 1), FULL);
        due("is empty", full.bufferLength(), 0);

        says("P4", "Its bytes are the first n bytes of the text buffer");
        Run n = new Run();
        Check.feed(n, SIXTEEN + "qrstuvwx");
        due("add", n.addKeyword(3, 1), 0);
        dueAll("byte", 0, 3, i -> n.keywordByte(0, i), i -> i < 3 ? 'a' + i : NONE);
        Check.feed(n, "xy");
        due("only what was appended since", n.addKeyword(2, 1), 1);
        due("its first byte", n.keywordByte(1, 0), 'x');
    }

    private static void addedAnswers() {
        says("P4", "Adds a keyword");
        Run m = new Run();
        due("add", Check.add(m, "k", 7), 0);
        due("it is live", m.isLive(0), 1);
        due("it is the only one", m.liveCount(), 1);
        due("its weight", m.keywordWeight(0), 7);
        due("its level", m.levelOf(0), 0);

        says("P4", "Returns the number of the keyword");
        Run all = crowd(40);
        dueAll("isLive", 0, 40, all::isLive, k -> k < 40 ? 1 : NO_SUCH);

        says("P4", "BAD_TEXT if the bytes are not a keyword");
        Run bad = with("a");
        due("no bytes", Check.add(bad, "", 1), BAD_TEXT);
        due("seventeen", Check.add(bad, "k".repeat(17), 1), BAD_TEXT);
        due("byte 32", Check.add(bad, "a ", 1), BAD_TEXT);
        due("byte 127", Check.add(bad, "a\u007f", 1), BAD_TEXT);
        due("before FULL", Check.add(crowd(40), "a ", 1), BAD_TEXT);
        due("before FULL", Check.add(given(120, 0), "", 1), BAD_TEXT);

        says("P4", "DUPLICATE if a live keyword is equal");
        due("the first of many", Check.add(crowd(39), pair(0), 1), DUPLICATE);
        due("the last of many", Check.add(crowd(39), pair(38), 1), DUPLICATE);
        due("before FULL", Check.add(crowd(40), pair(39), 1), DUPLICATE);
        due("before FULL", Check.add(given(120, 1), pair(119), 1), DUPLICATE);
        Run removed = with("a", "b", "c");
        due("remove", removed.removeKeyword(1), 2);
        due("a removed one is still in the main set", removed.levelOf(1), 1);
        due("but is not live", Check.add(removed, "b", 1), 3);
    }

    private static void addedFull() {
        says("P4", "FULL if 40 keywords are live or all 120 numbers are given out");
        due("39 live", Check.add(crowd(39), "z", 1), 39);
        due("40 live", Check.add(crowd(40), "z", 1), FULL);
        due("119 numbers", Check.add(given(119, 0), "z", 1), 119);
        due("120 numbers", Check.add(given(120, 0), "z", 1), FULL);
        due("120 numbers, 39 live", Check.add(given(120, 39), "zz", 1), FULL);
        due("119 numbers, 40 live", Check.add(given(119, 40), "zz", 1), FULL);
        due("120 numbers, 40 live", Check.add(given(120, 40), "zz", 1), FULL);
    }

    private static void removing() {
        says("P5", "Removes a live keyword");
        Run m = scanned("abc", "a", "b", "c");
        due("remove", m.removeKeyword(1), 2);
        due("it is not live", m.isLive(1), 0);
        due("the others are", m.isLive(0) + m.isLive(2), 2);
        due("its matches are gone", m.matchCount(), 2);

        says("P5", "Returns the number of keywords that are live afterwards");
        Run all = crowd(40);
        dueAll("remove", 0, 39, all::removeKeyword, k -> 39 - k);

        says("P5", "NO_SUCH if the keyword is not live", "`keyword`: number of a keyword");
        due("none was added", new Run().removeKeyword(0), NO_SUCH);
        dueNoSuch("remove", 3, m::removeKeyword);
        due("a removed one", m.removeKeyword(1), NO_SUCH);
        dueAll("all were removed", -1, 41, all::removeKeyword, k -> NO_SUCH);
        Run old = given(120, 1);
        due("one behind the last number", old.removeKeyword(120), NO_SUCH);
        due("the last number", old.removeKeyword(119), 0);
        due("it is removed now", old.removeKeyword(119), NO_SUCH);
    }

    private static void finding() {
        says("P6", "Finds the live keyword that is equal to the first n bytes of the text buffer",
                "Returns the number of the keyword");
        Run m = with("a", "ab", SIXTEEN, "~", "!");
        due("one byte", Check.find(m, "a"), 0);
        due("two bytes", Check.find(m, "ab"), 1);
        due("sixteen bytes", Check.find(m, SIXTEEN), 2);
        due("the highest byte", Check.find(m, "~"), 3);
        due("the lowest byte", Check.find(m, "!"), 4);
        Check.feed(m, "abx");
        due("the first two of more", m.findKeyword(2), 1);
        due("the last one of 40", Check.find(crowd(40), pair(39)), 39);

        says("P6", "NONE if no live keyword is equal");
        due("no keywords", Check.find(new Run(), "a"), NONE);
        due("no keywords and no bytes", new Run().findKeyword(0), NONE);
        due("no bytes", Check.find(m, ""), NONE);
        due("a longer one", Check.find(m, "abc"), NONE);
        due("a shorter one", Check.find(m, SIXTEEN.substring(0, 15)), NONE);
        due("seventeen bytes", Check.find(m, SIXTEEN + "q"), NONE);
        due("two hundred bytes", Check.find(m, "a".repeat(200)), NONE);
        due("bytes that no keyword has", Check.find(m, "\u0000"), NONE);
        due("another case", Check.find(m, "A"), NONE);
        due("remove", m.removeKeyword(1), 4);
        due("a removed one", Check.find(m, "ab"), NONE);
        due("add again", Check.add(m, "ab", 1), 5);
        due("the new one", Check.find(m, "ab"), 5);

        says("P6", "The buffer is empty afterwards, unless BAD_VALUE is returned");
        fill(m, 40);
        due("BAD_VALUE", m.findKeyword(41), BAD_VALUE);
        due("is kept", m.bufferLength(), 40);
        due("NONE", m.findKeyword(3), NONE);
        due("is empty", m.bufferLength(), 0);
        Check.feed(m, "a".repeat(40));
        due("found", m.findKeyword(1), 0);
        due("is empty", m.bufferLength(), 0);
        fill(m, 40);
        due("no bytes", m.findKeyword(0), NONE);
        due("is empty", m.bufferLength(), 0);
    }

    private static void foundLength() {
        says("P6", "`n`: number of bytes, 0 to the length of the buffer");
        for (int length = 0; length <= 200; length += 20) {
            Run m = new Run();
            fill(m, length);
            due("n = -1", m.findKeyword(-1), BAD_VALUE);
            due("n one above " + length, m.findKeyword(length + 1), BAD_VALUE);
            due("n = " + length, m.findKeyword(length), NONE);
            fill(m, length);
            due("n = 0", m.findKeyword(0), NONE);
        }

        says("P6", "BAD_VALUE if n is out of range");
        Run m = with("k");
        fill(m, 20);
        dueBelow("n", m::findKeyword, BAD_VALUE);
        dueAbove("n", m::findKeyword, BAD_VALUE);
        due("n = 21", m.findKeyword(21), BAD_VALUE);
        due("n = 1", m.findKeyword(1), 0);
        due("the buffer is empty now", m.findKeyword(1), BAD_VALUE);
    }

    private static void lengthsAndWeights() {
        Run m = with("a", "ab", SIXTEEN);
        due("remove", m.removeKeyword(1), 2);
        due("remove", m.removeKeyword(2), 1);
        due("rebuilt", m.rebuildCount(), 1);
        says("P7", "Returns the length of a keyword, which may have been removed", "Returns the length;");
        due("the shortest", m.keywordLength(0), 1);
        due("a removed one", m.keywordLength(1), 2);
        due("the longest", m.keywordLength(2), 16);
        due("the last of 120", given(120, 0).keywordLength(119), 2);
        says("P7", "NO_SUCH if the number has not been given out", "`keyword`: number of a keyword");
        dueNoSuch("keywordLength", 3, m::keywordLength);
        due("no keywords", new Run().keywordLength(0), NO_SUCH);

        says("P9", "Returns the weight of a keyword, which may have been removed", "Returns the weight;");
        dueAll("keywordWeight", 0, 2, m::keywordWeight, k -> k + 1);
        due("the last of 120", given(120, 0).keywordWeight(119), 1);
        says("P9", "NO_SUCH if the number has not been given out", "`keyword`: number of a keyword");
        dueNoSuch("keywordWeight", 3, m::keywordWeight);
        due("no keywords", new Run().keywordWeight(0), NO_SUCH);
    }

    private static void keywordBytes() {
        Run m = folded(true, "!~", SIXTEEN, "aBZ");
        due("remove", m.removeKeyword(1) + m.removeKeyword(2), 2 + 1);
        says("P8", "Returns a byte of a keyword as it was added, which may have been removed", "Returns the byte;",
                "`index`: index of the byte, from 0");
        due("the lowest byte", m.keywordByte(0, 0), 33);
        due("the highest byte", m.keywordByte(0, 1), 126);
        dueAll("all of sixteen", 0, 15, i -> m.keywordByte(1, i), i -> 'a' + i);
        dueAll("as it was added", 0, 2, i -> m.keywordByte(2, i), i -> "aBZ".charAt(i));
        due("the last of 120", given(120, 0).keywordByte(119, 1), 'A' + 9);
        says("P8", "NONE if the index is not below the length");
        dueAll("behind two", 2, 20, i -> m.keywordByte(0, i), i -> NONE);
        dueAll("behind sixteen", 16, 20, i -> m.keywordByte(1, i), i -> NONE);
        dueAbove("far behind", i -> m.keywordByte(1, i), NONE);
        says("P8", "NO_SUCH if the number has not been given out", "`keyword`: number of a keyword");
        dueNoSuch("keywordByte", 3, k -> m.keywordByte(k, 0));
        dueNoSuch("before BAD_VALUE", 3, k -> m.keywordByte(k, -1));
        dueNoSuch("before NONE", 3, k -> m.keywordByte(k, 16));
        says("P8", "BAD_VALUE if the index is negative");
        dueBelow("of a live one", i -> m.keywordByte(0, i), BAD_VALUE);
        dueBelow("of a removed one", i -> m.keywordByte(1, i), BAD_VALUE);
    }

    private static void livingOrRemoved() {
        says("P10", "Tells whether a keyword is live", "Returns 1 if it is live, 0 if it has been removed");
        Run m = with("a", "b", "c", "d", "e");
        due("remove", m.removeKeyword(1), 4);
        dueAll("isLive", 0, 4, m::isLive, k -> k == 1 ? 0 : 1);
        Run old = given(120, 2);
        dueAll("isLive", 110, 119, old::isLive, k -> k < 118 ? 0 : 1);
        says("P10", "NO_SUCH if the number has not been given out", "`keyword`: number of a keyword");
        dueNoSuch("isLive", 5, m::isLive);
        due("no keywords", new Run().isLive(0), NO_SUCH);
        due("behind 120", old.isLive(120), NO_SUCH);

        says("P11", "Returns the number of live keywords", "Returns 0 to 40");
        Run counted = new Run();
        due("none", counted.liveCount(), 0);
        for (int i = 0; i < 40; i++) {
            Check.add(counted, pair(i), 1);
            due("after adding", counted.liveCount(), i + 1);
        }
        for (int i = 0; i < 40; i++) {
            counted.removeKeyword(i);
            due("after removing", counted.liveCount(), 39 - i);
        }
    }

    private static void foldingSetting() {
        says("D1", "Folding is a setting, initially off");
        due("off", new Run().setFolding(false), 0);
        due("off", new Run().setFolding(true), 0);

        says("P12", "Switches folding on or off");
        Run m = folded(true, "A");
        due("on", Check.find(m, "a"), 0);
        due("remove", m.removeKeyword(0), 0);
        due("off", m.setFolding(false), 1);
        due("add", Check.add(m, "A", 1), 1);
        due("off", Check.find(m, "a"), NONE);

        says("P12", "Returns 1 if folding was on before, otherwise 0", "`on`: whether folding is on from now on");
        Run n = new Run();
        due("off to off", n.setFolding(false), 0);
        due("off to on", n.setFolding(true), 0);
        due("on to on", n.setFolding(true), 1);
        due("on to off", n.setFolding(false), 1);
        due("it was off", n.setFolding(false), 0);
    }

    private static void foldingBusy() {
        says("P12", "BUSY if a keyword is live or the stream is not empty (also if the setting would not change)");
        for (boolean on : new boolean[] {false, true}) {
            Run keyword = folded(on, "a");
            due("a live keyword", keyword.setFolding(!on), BUSY);
            due("without a change", keyword.setFolding(on), BUSY);
            due("remove", keyword.removeKeyword(0), 0);
            due("a removed one", keyword.setFolding(on), on ? 1 : 0);
            Run stream = folded(on);
            due("scan", Check.scan(stream, "x"), 0);
            due("one byte", stream.setFolding(!on), BUSY);
            due("without a change", stream.setFolding(on), BUSY);
            due("reset", stream.resetStream(), 1);
            due("an empty stream", stream.setFolding(on), on ? 1 : 0);
            Run both = folded(on, "a");
            due("scan", Check.scan(both, "a"), 1);
            due("both", both.setFolding(!on), BUSY);
            due("remove", both.removeKeyword(0), 0);
            due("the stream", both.setFolding(on), BUSY);
            due("reset", both.resetStream(), 1);
            due("neither", both.setFolding(!on), on ? 1 : 0);
        }
        Run m = new Run();
        fill(m, 20);
        due("bytes in the buffer do not matter", m.setFolding(true), 0);
        due("scan of no bytes", m.scan(0), 0);
        due("the stream is empty", m.setFolding(true), 1);
        due("40 live ones", crowd(40).setFolding(true), BUSY);
        Run full = new Run();
        scanAll(full, "x".repeat(600));
        due("600 bytes", full.setFolding(true), BUSY);
    }
}
