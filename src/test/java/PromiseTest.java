/** One method for each promise of the document: ordinary inputs, the edges that it names, and wrong inputs. */
public final class PromiseTest {
    private static final int NONE = -1;
    private static final int NO_SUCH = -2;
    private static final int BAD_VALUE = -3;
    private static final int BAD_TEXT = -4;
    private static final int DUPLICATE = -5;
    private static final int FULL = -6;
    private static final int BUSY = -7;
    private static final int LOWEST = Integer.MIN_VALUE;
    private static final int HIGHEST = Integer.MAX_VALUE;
    private static final String SIXTEEN = "abcdefghijklmnop";

    private static String promise = "";

    private PromiseTest() {
    }

    public static void main(String[] args) {
        examples();
        newObject();
        texts();
        adding();
        addingLimits();
        removing();
        asking();
        folding();
        bucketSizes();
        automata();
        work();
        scanning();
        streamLimits();
        reports();
        counting();
        overlaps();
        gaps();
        nearMatches();
        superstrings();
        covers();
        longestMatches();
        longestAfterChanges();
        Check.finish("PromiseTest");
    }

    private static void due(String call, long got, long want) {
        Check.due(promise + ": " + call, got, want);
    }

    private static String repeat(String text, int times) {
        return text.repeat(times);
    }

    /** Forty different keywords of two bytes, from "a0" on. */
    private static Run crowded() {
        Run m = new Run();
        for (int i = 0; i < 40; i++) {
            due("add", Check.add(m, "" + (char) ('a' + i / 10) + i % 10, 1), i);
        }
        return m;
    }

    private static void examples() {
        promise = "the document's examples";
        Run one = new Run();
        due("appendBytes", one.appendBytes(1633771776, 0, 0, 0, 0), 20);
        due("addKeyword", one.addKeyword(2, 5), 0);
        due("appendBytes", one.appendBytes(1633772129, 1644167168, 0, 0, 0), 20);
        due("scan", one.scan(5), 1);
        due("matchCount", one.matchCount(), 1);
        due("reportEnd", one.reportEnd(1), NONE);
        due("coverSize", one.coverSize(), 1);
        Run two = new Run();
        due("appendBytes", two.appendBytes(1633771776, 0, 0, 0, 0), 20);
        due("addKeyword", two.addKeyword(2, 5), 0);
        due("appendBytes", two.appendBytes(1633771776, 0, 0, 0, 0), 20);
        due("addKeyword", two.addKeyword(2, 1), DUPLICATE);
        due("buildWork", two.buildWork(), 1);
        due("mainSize", two.mainSize(0), 1);
        Run three = Check.with("aa");
        due("removeKeyword", three.removeKeyword(0), 0);
        due("rebuildCount", three.rebuildCount(), 1);
        due("buildWork", three.buildWork(), 2);
        due("removeKeyword", three.removeKeyword(0), NO_SUCH);
        Run four = new Run();
        due("plannedWork", four.plannedWork(4), 8);
        due("scan", four.scan(1), BAD_VALUE);
        due("setFolding", four.setFolding(true), 0);
        due("gapStart", four.gapStart(), NONE);
    }

    private static void newObject() {
        promise = "1";
        Run m = new Run();
        due("liveCount", m.liveCount(), 0);
        due("streamLength", m.streamLength(), 0);
        due("bufferLength", m.bufferLength(), 0);
        due("reportCount", m.reportCount(), 0);
        due("buildWork", m.buildWork(), 0);
        due("rebuildCount", m.rebuildCount(), 0);
        due("setFolding", m.setFolding(false), 0);
        Check.add(m, "a", 1);
        due("another object is not touched", new Run().liveCount(), 0);
    }

    private static void texts() {
        promise = "2 and 3";
        Run m = new Run();
        due("appendBytes", m.appendBytes(0x01020304, 0x7f80fe00, -1, 0, 0x10203040), 20);
        due("bufferLength", m.bufferLength(), 20);
        due("scan", m.scan(20), 0);
        int[] want = {1, 2, 3, 4, 127, 128, 254, 0, 255, 255, 255, 255, 0, 0, 0, 0, 16, 32, 48, 64};
        for (int i = 0; i < want.length; i++) {
            due("byte " + i, m.streamByte(i), want[i]);
        }
        for (int length = 20; length <= 200; length += 20) {
            due("appendBytes", m.appendBytes(LOWEST, HIGHEST, 0, 1, -1), length);
            due("bufferLength", m.bufferLength(), length);
        }
        due("appendBytes to a full buffer", m.appendBytes(0, 0, 0, 0, 0), FULL);
        due("bufferLength", m.bufferLength(), 200);
        due("scan", m.scan(200), 0);
        due("the refused bytes are not there", m.streamByte(20 + 199), 255);
        due("bufferLength", m.bufferLength(), 0);
    }

    private static void adding() {
        promise = "4";
        Run m = new Run();
        due("the first keyword", Check.add(m, "!~", 1), 0);
        due("the buffer is empty", m.bufferLength(), 0);
        due("sixteen bytes", Check.add(m, SIXTEEN, 99), 1);
        due("one byte", Check.add(m, "x", 50), 2);
        due("seventeen bytes", Check.add(m, SIXTEEN + "q", 1), BAD_TEXT);
        due("the buffer is empty after BAD_TEXT", m.bufferLength(), 0);
        due("byte 32", Check.add(m, "a b", 1), BAD_TEXT);
        due("byte 127", Check.add(m, "a" + (char) 127, 1), BAD_TEXT);
        due("byte 0", Check.add(m, "" + (char) 0, 1), BAD_TEXT);
        due("byte 255", Check.add(m, "" + (char) 255, 1), BAD_TEXT);
        due("a bad byte behind n", m.appendBytes(Check.four("pq", 0), 0, 0, 0, 0), 20);
        due("does not matter", m.addKeyword(2, 1), 3);
        due("no bytes", Check.add(m, "", 1), BAD_TEXT);
        due("an equal one", Check.add(m, "x", 1), DUPLICATE);
        due("the buffer is empty after DUPLICATE", m.bufferLength(), 0);
        due("the weight is the old one", m.keywordWeight(2), 50);
        Check.feed(m, "y");
        due("weight 0", m.addKeyword(1, 0), BAD_VALUE);
        due("weight 100", m.addKeyword(1, 100), BAD_VALUE);
        due("weight and bytes", m.addKeyword(0, LOWEST), BAD_VALUE);
        due("n above the buffer", m.addKeyword(21, 1), BAD_VALUE);
        due("n below 0", m.addKeyword(-1, 1), BAD_VALUE);
        due("n far above", m.addKeyword(HIGHEST, 1), BAD_VALUE);
        due("n far below", m.addKeyword(LOWEST, 1), BAD_VALUE);
        due("the buffer is kept after BAD_VALUE", m.bufferLength(), 20);
        due("liveCount", m.liveCount(), 4);
        due("the kept buffer is used", m.addKeyword(1, 1), 4);
        due("a removed one", m.removeKeyword(2), 4);
        due("may be added again", Check.add(m, "x", 7), 5);
        due("its number is new", m.isLive(2), 0);
    }

    private static void addingLimits() {
        promise = "4";
        Run m = crowded();
        due("the forty-first", Check.add(m, "z", 1), FULL);
        due("the buffer is empty after FULL", m.bufferLength(), 0);
        due("DUPLICATE before FULL", Check.add(m, "a0", 1), DUPLICATE);
        due("BAD_TEXT before FULL", Check.add(m, " ", 1), BAD_TEXT);
        due("FULL changes nothing", m.liveCount(), 40);
        due("removing", m.removeKeyword(7), 39);
        due("makes room", Check.add(m, "z", 1), 40);

        Run n = new Run();
        for (int i = 0; i < 120; i++) {
            due("number", Check.add(n, "k", 1), i);
            due("removing", n.removeKeyword(i), 0);
        }
        due("the 121st number", Check.add(n, "k", 1), FULL);
        due("the last number", n.isLive(119), 0);
        due("no number behind it", n.isLive(120), NO_SUCH);
        due("all numbers are gone", Check.add(n, "l", 1), FULL);
    }

    private static void removing() {
        promise = "5";
        Run m = Check.with("ab", "bc", "cd");
        due("removeKeyword", m.removeKeyword(1), 2);
        due("a removed one", m.removeKeyword(1), NO_SUCH);
        due("not given out", m.removeKeyword(3), NO_SUCH);
        due("negative", m.removeKeyword(-1), NO_SUCH);
        due("lowest", m.removeKeyword(LOWEST), NO_SUCH);
        due("highest", m.removeKeyword(HIGHEST), NO_SUCH);
        due("scan", Check.scan(m, "abcd"), 2);
        due("matches use the live ones", m.matchCount(), 2);
        due("remove with matches", m.removeKeyword(0), 1);
        due("its matches are gone", m.matchCount(), 1);
        due("remove the last", m.removeKeyword(2), 0);
        due("no matches", m.matchCount(), 0);
        due("the reports stay", m.reportCount(), 2);
    }

    private static void asking() {
        promise = "6";
        Run m = Check.with("ab", "abc", SIXTEEN);
        due("findKeyword", Check.find(m, "abc"), 1);
        due("the buffer is empty", m.bufferLength(), 0);
        due("a prefix of the buffer", Check.feed(m, "abcdef"), 20);
        due("counts alone", m.findKeyword(2), 0);
        due("sixteen", Check.find(m, SIXTEEN), 2);
        due("seventeen", Check.find(m, SIXTEEN + "q"), NONE);
        due("not there", Check.find(m, "b"), NONE);
        due("the buffer is empty after NONE", m.bufferLength(), 0);
        due("no bytes", Check.find(m, ""), NONE);
        due("bytes that are no keyword", Check.find(m, "\u0000\u00ff"), NONE);
        Check.feed(m, "ab");
        due("n above the buffer", m.findKeyword(21), BAD_VALUE);
        due("n below 0", m.findKeyword(-1), BAD_VALUE);
        due("lowest", m.findKeyword(LOWEST), BAD_VALUE);
        due("the buffer is kept", m.bufferLength(), 20);
        due("removed", m.removeKeyword(0), 2);
        due("is not found", m.findKeyword(2), NONE);

        promise = "7";
        due("keywordLength", m.keywordLength(2), 16);
        due("a removed one", m.keywordLength(0), 2);
        due("not given out", m.keywordLength(3), NO_SUCH);
        due("negative", m.keywordLength(-1), NO_SUCH);
        due("lowest", m.keywordLength(LOWEST), NO_SUCH);

        promise = "8";
        due("keywordByte", m.keywordByte(2, 15), 'p');
        due("the first byte", m.keywordByte(2, 0), 'a');
        due("a removed one", m.keywordByte(0, 1), 'b');
        due("behind the end", m.keywordByte(0, 2), NONE);
        due("behind sixteen", m.keywordByte(2, 16), NONE);
        due("highest index", m.keywordByte(2, HIGHEST), NONE);
        due("negative index", m.keywordByte(2, -1), BAD_VALUE);
        due("lowest index", m.keywordByte(2, LOWEST), BAD_VALUE);
        due("NO_SUCH before BAD_VALUE", m.keywordByte(3, -1), NO_SUCH);
        due("highest number", m.keywordByte(HIGHEST, 0), NO_SUCH);

        promise = "9";
        due("keywordWeight", m.keywordWeight(1), 2);
        due("a removed one", m.keywordWeight(0), 1);
        due("not given out", m.keywordWeight(3), NO_SUCH);
        due("negative", m.keywordWeight(-1), NO_SUCH);

        promise = "10";
        due("isLive", m.isLive(1), 1);
        due("a removed one", m.isLive(0), 0);
        due("not given out", m.isLive(3), NO_SUCH);
        due("negative", m.isLive(LOWEST), NO_SUCH);

        promise = "11";
        due("liveCount", m.liveCount(), 2);
        due("forty", crowded().liveCount(), 40);
    }

    private static void folding() {
        promise = "12";
        Run m = new Run();
        due("on", m.setFolding(true), 0);
        due("on again", m.setFolding(true), 1);
        due("add", Check.add(m, "aB[", 1), 0);
        due("busy with a keyword", m.setFolding(false), BUSY);
        due("busy without a change", m.setFolding(true), BUSY);
        due("an equal one", Check.add(m, "Ab[", 1), DUPLICATE);
        due("{ is not folded to [", Check.add(m, "ab{", 1), 1);
        due("@ is not folded", Check.add(m, "@", 1), 2);
        due("` is another byte", Check.add(m, "`", 1), 3);
        due("found", Check.find(m, "AB["), 0);
        due("kept as added", m.keywordByte(0, 1), 'B');
        due("scan", Check.scan(m, "AB[aB["), 2);
        due("the last letter", Check.add(m, "zZ", 1), 4);
        due("the last letter", Check.find(m, "Zz"), 4);
        due("remove", m.removeKeyword(4), 4);
        due("the stream is kept as scanned", m.streamByte(0), 'A');
        due("matches", m.matchCountOf(0), 2);
        for (int keyword = 0; keyword < 4; keyword++) {
            due("remove", m.removeKeyword(keyword), 3 - keyword);
        }
        due("busy with a stream", m.setFolding(true), BUSY);
        due("reset", m.resetStream(), 6);
        due("was on", m.setFolding(false), 1);
        due("is off", m.setFolding(false), 0);
        due("add", Check.add(m, "aB", 1), 5);
        due("not equal when off", Check.add(m, "Ab", 1), 6);
        due("scan", Check.scan(m, "ab"), 0);
    }

    private static void bucketSizes() {
        promise = "13 and 14";
        Run grown = new Run();
        for (int i = 0; i < 40; i++) {
            due("add", Check.add(grown, "" + (char) ('a' + i / 10) + i % 10, 1), i);
            for (int level = 0; level <= 6; level++) {
                due("mainSize", grown.mainSize(level), i + 1 & 1 << level);
            }
            due("removalSize", grown.removalSize(i % 7), 0);
        }
        Run m = crowded();
        for (int i = 0; i < 19; i++) {
            due("remove", m.removeKeyword(i), 39 - i);
            for (int level = 0; level <= 4; level++) {
                due("removalSize", m.removalSize(level), i + 1 & 1 << level);
            }
            due("the main set stays", m.mainSize(i % 7), 40 & 1 << i % 7);
        }
        for (int i = 0; i < 19; i++) {
            due("add again", Check.add(m, "" + (char) ('a' + i / 10) + i % 10, 1), 40 + i);
        }
        due("59 keywords", m.mainSize(5), 32);
        for (int i = 0; i < 10; i++) {
            due("remove", m.removeKeyword(40 + i), 39 - i);
        }
        due("no rebuild at 29 of 59", m.removalSize(4), 16);
        for (int i = 0; i < 10; i++) {
            due("add again", Check.add(m, "" + (char) ('a' + i / 10) + i % 10, 1), 59 + i);
        }
        due("the highest level", m.mainSize(6), 64);
        due("69 keywords", m.mainSize(2), 4);
        due("no rebuild", m.rebuildCount(), 0);
        for (int level : new int[] {-1, 7, LOWEST, HIGHEST, 32}) {
            due("mainSize out of range", m.mainSize(level), BAD_VALUE);
            due("removalSize out of range", m.removalSize(level), BAD_VALUE);
        }
    }

    private static void automata() {
        promise = "15";
        Run m = Check.with("he", "she", "his", "hers", "hex");
        due("stateCount", m.stateCount(2), 10);
        due("one keyword", m.stateCount(0), 4);
        due("an empty level", m.stateCount(1), NONE);
        due("too high", m.stateCount(7), BAD_VALUE);
        due("negative", m.stateCount(-1), BAD_VALUE);
        due("lowest", m.stateCount(LOWEST), BAD_VALUE);

        promise = "16";
        due("an empty stream", m.currentDepth(2), 0);
        due("scan", Check.scan(m, "usher"), 2);
        due("a proper prefix", m.currentDepth(2), 3);
        due("another bucket", m.currentDepth(0), 0);
        due("scan", Check.scan(m, "s"), 1);
        due("a whole keyword", m.currentDepth(2), 4);
        due("scan", Check.scan(m, "h"), 0);
        due("two levels", m.currentDepth(2) * 10 + m.currentDepth(0), 21);
        due("an empty level", m.currentDepth(6), NONE);
        due("too high", m.currentDepth(7), BAD_VALUE);
        due("negative", m.currentDepth(-1), BAD_VALUE);
        due("a removed one", m.removeKeyword(1), 4);
        due("stays in its bucket", m.currentDepth(2), 2);
        due("with its states", m.stateCount(2), 10);
        Run longOne = Check.with(SIXTEEN);
        due("scan", Check.scan(longOne, "x" + SIXTEEN), 1);
        due("sixteen", longOne.currentDepth(0), 16);

        promise = "17";
        due("levelOf", m.levelOf(0), 2);
        due("of a removed one that is still there", m.levelOf(1), 2);
        due("of the newest", m.levelOf(4), 0);
        due("not given out", m.levelOf(5), NO_SUCH);
        due("negative", m.levelOf(-1), NO_SUCH);

        promise = "18";
        due("she", m.failureLength(1, 3), 2);
        due("sh", m.failureLength(1, 2), 1);
        due("s", m.failureLength(1, 1), 0);
        due("hers", m.failureLength(3, 4), 1);
        due("in its own bucket only", m.failureLength(4, 3), 0);
        due("length 0", m.failureLength(1, 0), BAD_VALUE);
        due("too long", m.failureLength(1, 4), BAD_VALUE);
        due("lowest", m.failureLength(1, LOWEST), BAD_VALUE);
        due("NO_SUCH before BAD_VALUE", m.failureLength(5, 0), NO_SUCH);
        due("its own prefix", Check.with("aaaa").failureLength(0, 4), 3);
        due("remove", m.removeKeyword(0), 3);
        due("remove", m.removeKeyword(2), 2);
        due("rebuilt", m.rebuildCount(), 1);
        due("in no bucket", m.levelOf(1), NONE);
        due("no failure length", m.failureLength(1, 3), NONE);
        due("BAD_VALUE before NONE", m.failureLength(1, 4), BAD_VALUE);
        due("the live ones are there", m.levelOf(3), 1);
        due("both", m.levelOf(4), 1);

        promise = "15 to 18 with folding";
        Run n = new Run();
        due("on", n.setFolding(true), 0);
        due("add", Check.add(n, "ABc", 1), 0);
        due("add", Check.add(n, "bCa", 1), 1);
        due("add", Check.add(n, "zz", 1), 2);
        due("add", Check.add(n, "abC1", 1), 3);
        due("stateCount", n.stateCount(2), 10);
        due("failureLength", n.failureLength(3, 3), 2);
        due("scan", Check.scan(n, "aBC"), 1);
        due("currentDepth", n.currentDepth(2), 3);
    }

    private static void work() {
        promise = "19";
        Run m = new Run();
        int[] want = {1, 3, 4, 8, 9, 11, 12, 20};
        for (int i = 0; i < want.length; i++) {
            due("add", Check.add(m, "" + (char) ('a' + i), 1), i);
            due("buildWork", m.buildWork(), want[i]);
        }
        due("refused", Check.add(m, "a", 1), DUPLICATE);
        due("adds nothing", m.buildWork(), 20);
        due("remove", m.removeKeyword(0), 7);
        due("buildWork", m.buildWork(), 21);
        due("remove", m.removeKeyword(5), 6);
        due("buildWork", m.buildWork(), 23);
        due("remove", m.removeKeyword(2), 5);
        due("buildWork", m.buildWork(), 24);

        promise = "20";
        due("none", m.plannedWork(0), 0);
        due("one", m.plannedWork(1), 1);
        due("from eight to sixteen", m.plannedWork(8), 1 + 2 + 1 + 4 + 1 + 2 + 1 + 16);
        due("too many", m.plannedWork(41), BAD_VALUE);
        due("negative", m.plannedWork(-1), BAD_VALUE);
        due("lowest", m.plannedWork(LOWEST), BAD_VALUE);
        due("highest", m.plannedWork(HIGHEST), BAD_VALUE);
        due("nothing is changed", m.buildWork(), 24);
        due("the limits are ignored", crowded().plannedWork(40), 20 * 1 + 10 * 2 + 5 * 4 + 2 * 8 + 1 * 16 + 64 + 16);

        promise = "21";
        due("no rebuild at three of eight", m.rebuildCount(), 0);
        due("remove", m.removeKeyword(7), 4);
        due("a rebuild at four of eight", m.rebuildCount(), 1);
        due("buildWork", m.buildWork(), 24 + 4 + 8);
        due("mainSize", m.mainSize(2), 4);
        due("removalSize", m.removalSize(2), 0);
        due("remove", m.removeKeyword(7), NO_SUCH);
        due("changes nothing", m.rebuildCount(), 1);
        Run n = Check.with("a", "b", "c", "d", "e");
        due("remove", n.removeKeyword(0), 4);
        due("remove", n.removeKeyword(1), 3);
        due("four is less than five", n.rebuildCount(), 0);
        due("remove", n.removeKeyword(2), 2);
        due("six is not", n.rebuildCount(), 1);
        due("remove", n.removeKeyword(3), 1);
        due("one of two", n.rebuildCount(), 2);
        due("the removal and the rebuild work", n.buildWork(), 9 + 1 + 2 + 1 + 3 + 1 + 1);
        Run first = Check.with("a", "b", "c");
        due("remove", first.removeKeyword(2), 2);
        due("remove", first.removeKeyword(1), 1);
        due("the first one stays", first.levelOf(0), 0);
        due("alone", first.mainSize(0), 1);
    }

    private static void scanning() {
        promise = "22";
        Run m = Check.with("aa", "a");
        due("scan", Check.scan(m, "aaa"), 5);
        due("no bytes", Check.scan(m, ""), 0);
        due("across calls", Check.scan(m, "a"), 2);
        due("the buffer is empty", m.bufferLength(), 0);
        Check.feed(m, "aa");
        due("n above the buffer", m.scan(21), BAD_VALUE);
        due("n below 0", m.scan(-1), BAD_VALUE);
        due("highest", m.scan(HIGHEST), BAD_VALUE);
        due("lowest", m.scan(LOWEST), BAD_VALUE);
        due("the buffer is kept", m.bufferLength(), 20);
        due("nothing is scanned", m.streamLength(), 4);
        due("no bytes of some", m.scan(0), 0);
        due("the buffer is empty", m.bufferLength(), 0);
        due("scan", Check.scan(m, "xab"), 1);
        due("a keyword that began before it was added", Check.add(m, "bcd", 1), 2);
        due("is reported", Check.scan(m, "cd"), 1);
        due("remove", m.removeKeyword(2), 2);
        due("a removed one is not reported", Check.scan(m, "bcd"), 0);
    }

    private static void streamLimits() {
        promise = "22";
        Run m = Check.with("a");
        for (int i = 0; i < 3; i++) {
            due("scan", Check.scan(m, repeat("a", 199)), 199);
        }
        due("scan", Check.scan(m, "aa"), 2);
        Check.feed(m, "aa");
        due("one byte too many", m.scan(2), FULL);
        due("the buffer is empty after FULL", m.bufferLength(), 0);
        due("the stream is kept", m.streamLength(), 599);
        due("the reports are kept", m.reportCount(), 599);
        due("the last byte", Check.scan(m, "a"), 1);
        due("no byte more", Check.scan(m, "a"), FULL);
        due("none is fine", Check.scan(m, ""), 0);

        promise = "24";
        due("streamLength", m.streamLength(), 600);

        promise = "25";
        due("the first", m.streamByte(0), 'a');
        due("the last", m.streamByte(599), 'a');
        due("behind it", m.streamByte(600), NONE);
        due("highest", m.streamByte(HIGHEST), NONE);
        due("negative", m.streamByte(-1), BAD_VALUE);
        due("lowest", m.streamByte(LOWEST), BAD_VALUE);

        promise = "23";
        due("resetStream", m.resetStream(), 600);
        due("again", m.resetStream(), 0);
        due("streamLength", m.streamLength(), 0);
        due("streamByte", m.streamByte(0), NONE);
        due("reportCount", m.reportCount(), 0);
        due("reportEnd", m.reportEnd(0), NONE);
        due("matchCount", m.matchCount(), 0);
        due("a new stream", Check.scan(m, "ba"), 1);
        due("its own matches", m.nextMatch(0, 0), 1);
        due("its own reports", m.reportEnd(0), 1);
        due("reset", m.resetStream(), 2);
        due("scan", Check.scan(m, "b"), 0);
        due("what was scanned before", Check.add(m, "ba", 1), 1);
        due("is no part of the stream", m.matchCount(), 0);
        due("nor of its end", m.currentDepth(1), 1);
    }

    private static void reports() {
        promise = "26 to 28";
        Run m = Check.with("b", "aab", "ab");
        due("scan", Check.scan(m, "aabb"), 4);
        due("reportCount", m.reportCount(), 4);
        int[] ends = {2, 2, 2, 3};
        int[] numbers = {1, 2, 0, 0};
        for (int i = 0; i < 4; i++) {
            due("reportEnd", m.reportEnd(i), ends[i]);
            due("reportKeyword", m.reportKeyword(i), numbers[i]);
        }
        for (int index : new int[] {4, 299, 300, HIGHEST}) {
            due("reportEnd behind the last", m.reportEnd(index), NONE);
            due("reportKeyword behind the last", m.reportKeyword(index), NONE);
        }
        for (int index : new int[] {-1, LOWEST}) {
            due("reportEnd of a negative index", m.reportEnd(index), BAD_VALUE);
            due("reportKeyword of a negative index", m.reportKeyword(index), BAD_VALUE);
        }
        due("remove", m.removeKeyword(1), 2);
        due("the report stays", m.reportKeyword(0), 1);
        due("the count stays", m.reportCount(), 4);

        Run n = Check.with("a", "aa");
        due("scan", Check.scan(n, repeat("a", 200)), 399);
        due("all are counted", n.reportCount(), 399);
        due("the last one that is stored", n.reportEnd(299), 150);
        due("its keyword", n.reportKeyword(299), 1);
        due("not stored", n.reportEnd(300), NONE);
        due("not stored", n.reportKeyword(300), NONE);
        due("scan", Check.scan(n, "a"), 2);
        due("still counted", n.reportCount(), 401);
        due("still not stored", n.reportEnd(300), NONE);
    }

    private static void counting() {
        promise = "29";
        Run m = Check.with("aa", "a", "b");
        due("an empty stream", m.matchCount(), 0);
        due("scan", Check.scan(m, "aabaa"), 7);
        due("matchCount", m.matchCount(), 7);
        due("add later", Check.add(m, "ba", 1), 3);
        due("counts in the whole stream", m.matchCount(), 8);
        due("but is not reported", m.reportCount(), 7);
        due("add later", Check.add(m, "aab", 1), 4);
        due("from the first byte on", m.nextMatch(4, 0), 0);
        due("remove", m.removeKeyword(4), 4);
        due("all its matches go", m.matchCount(), 8);
        Run thick = new Run();
        for (int n = 1; n <= 16; n++) {
            due("add", Check.add(thick, repeat("a", n), 1), n - 1);
        }
        for (int i = 0; i < 3; i++) {
            Check.scan(thick, repeat("a", 200));
        }
        due("the most matches", thick.matchCount(), 16 * 600 - 120);
        due("the most reports", thick.reportCount(), 16 * 600 - 120);
        due("the deepest", thick.maximumDepth(), 136);
        due("all but the longest are contained", thick.containedMatches(), 16 * 600 - 120 - 585);

        promise = "30";
        due("matchCountOf", m.matchCountOf(0), 2);
        due("matchCountOf", m.matchCountOf(1), 4);
        due("not given out", m.matchCountOf(5), NO_SUCH);
        due("negative", m.matchCountOf(-1), NO_SUCH);
        due("remove", m.removeKeyword(0), 3);
        due("removed", m.matchCountOf(0), NO_SUCH);

        promise = "31";
        due("nextMatch", m.nextMatch(1, 0), 0);
        due("at the position", m.nextMatch(1, 3), 3);
        due("behind the position", m.nextMatch(1, 2), 3);
        due("the last", m.nextMatch(1, 4), 4);
        due("no more", m.nextMatch(1, 5), NONE);
        due("far behind", m.nextMatch(1, HIGHEST), NONE);
        due("negative", m.nextMatch(1, -1), BAD_VALUE);
        due("lowest", m.nextMatch(1, LOWEST), BAD_VALUE);
        due("NO_SUCH before BAD_VALUE", m.nextMatch(0, -1), NO_SUCH);
        due("not given out", m.nextMatch(HIGHEST, 0), NO_SUCH);
    }

    private static void overlaps() {
        Run m = Check.with("abc", "cd", "b", "xy", "bc");
        promise = "32";
        due("an empty stream", m.overlappingPairs(), 0);
        due("scan", Check.scan(m, "abcdxy"), 5);
        due("abc-cd, abc-b, abc-bc, b-bc, bc-cd", m.overlappingPairs(), 5);
        Run side = Check.with("ab", "cd");
        due("scan", Check.scan(side, "abcd"), 2);
        due("side by side", side.overlappingPairs(), 0);
        Run both = Check.with("a", "ab");
        due("scan", Check.scan(both, "ab"), 2);
        due("from the same start", both.overlappingPairs(), 1);

        promise = "33";
        due("maximumDepth", m.maximumDepth(), 3);
        due("side by side", side.maximumDepth(), 1);
        due("at the first byte", both.maximumDepth(), 2);
        due("no matches", Check.with("a").maximumDepth(), 0);

        promise = "34";
        due("b and bc", m.containedMatches(), 2);
        due("side by side", side.containedMatches(), 0);
        due("from the same start", both.containedMatches(), 1);
        Run ends = Check.with("abc", "ab", "bc", "bcd");
        due("scan", Check.scan(ends, "abcd"), 4);
        due("at the start and at the end", ends.containedMatches(), 2);

        promise = "37";
        Run n = Check.with("abab", "ba", "aba", "c", SIXTEEN, repeat("a", 16));
        due("abab, ba", n.overlapLength(0, 1), 1);
        due("abab, abab", n.overlapLength(0, 0), 2);
        due("abab, aba", n.overlapLength(0, 2), 2);
        due("aba, abab", n.overlapLength(2, 0), 1);
        due("a proper suffix", n.overlapLength(2, 2), 1);
        due("one byte", n.overlapLength(3, 3), 0);
        due("nothing", n.overlapLength(0, 3), 0);
        due("fifteen", n.overlapLength(5, 5), 15);
        due("removed", n.removeKeyword(0), 5);
        due("may be removed", n.overlapLength(1, 0), 1);
        due("not given out", n.overlapLength(0, 6), NO_SUCH);
        due("not given out", n.overlapLength(6, 0), NO_SUCH);
        due("negative", n.overlapLength(-1, 0), NO_SUCH);
        due("lowest", n.overlapLength(0, LOWEST), NO_SUCH);
        Run folded = Check.with("xAB", "abx");
        due("without folding", folded.overlapLength(0, 1), 0);
        due("remove", folded.removeKeyword(0), 1);
        due("remove", folded.removeKeyword(1), 0);
        due("on", folded.setFolding(true), 0);
        due("folding as it is now", folded.overlapLength(0, 1), 2);
    }

    private static void gaps() {
        promise = "35 and 36";
        Run m = Check.with("ab");
        due("an empty stream", m.gapLength(), 0);
        due("an empty stream", m.gapStart(), NONE);
        due("scan", Check.scan(m, "xabyyabzzab"), 3);
        due("gapLength", m.gapLength(), 2);
        due("the first of two", m.gapStart(), 3);
        due("scan", Check.scan(m, "www"), 0);
        due("at the end", m.gapLength(), 3);
        due("at the end", m.gapStart(), 11);
        due("reset", m.resetStream(), 14);
        due("scan", Check.scan(m, "abab"), 2);
        due("no gap", m.gapLength(), 0);
        due("no gap", m.gapStart(), NONE);
        due("remove", m.removeKeyword(0), 0);
        due("all is a gap", m.gapLength(), 4);
        due("all is a gap", m.gapStart(), 0);
    }

    private static void nearMatches() {
        promise = "38";
        Run m = Check.with("abcd", "xy", SIXTEEN);
        due("a short stream", m.nearMatchCount(0, 3), 0);
        due("scan", Check.scan(m, "abcxabcd"), 1);
        due("none", m.nearMatchCount(0, 0), 1);
        due("one", m.nearMatchCount(0, 1), 2);
        due("three", m.nearMatchCount(0, 3), 2);
        due("as many as its bytes", m.nearMatchCount(1, 2), 7);
        due("as long as the stream", m.nearMatchCount(2, 3), 0);
        due("too many", m.nearMatchCount(0, 4), BAD_VALUE);
        due("negative", m.nearMatchCount(0, -1), BAD_VALUE);
        due("NO_SUCH before BAD_VALUE", m.nearMatchCount(3, 4), NO_SUCH);
        due("lowest", m.nearMatchCount(LOWEST, 0), NO_SUCH);

        promise = "39 and 40";
        due("fewest", m.fewestMismatches(0), 0);
        due("nearest", m.nearestStart(0), 4);
        due("fewest", m.fewestMismatches(1), 1);
        due("nearest, the first", m.nearestStart(1), 3);
        due("a short stream", m.fewestMismatches(2), NONE);
        due("a short stream", m.nearestStart(2), NONE);
        due("not given out", m.fewestMismatches(3), NO_SUCH);
        due("not given out", m.nearestStart(3), NO_SUCH);
        due("all differ", Check.add(m, "zz", 1), 3);
        due("all differ", m.fewestMismatches(3), 2);
        due("at the start", m.nearestStart(3), 0);
        due("remove", m.removeKeyword(3), 3);
        due("removed", m.fewestMismatches(3), NO_SUCH);
        due("removed", m.nearestStart(-1), NO_SUCH);
        due("removed", m.nearMatchCount(3, 0), NO_SUCH);
        Run exact = Check.with("abc");
        due("scan", Check.scan(exact, "xbz"), 0);
        due("as long as the stream", exact.fewestMismatches(0), 2);
        due("as long as the stream", exact.nearestStart(0), 0);
        Run far = Check.with(SIXTEEN);
        due("scan", Check.scan(far, repeat("z", 17)), 0);
        due("all sixteen differ", far.fewestMismatches(0), 16);
        due("all sixteen differ", far.nearestStart(0), 0);
        Run folded = new Run();
        due("on", folded.setFolding(true), 0);
        due("add", Check.add(folded, "aBc", 1), 0);
        due("scan", Check.scan(folded, "AbX"), 0);
        due("folded", folded.fewestMismatches(0), 1);
        due("folded", folded.nearMatchCount(0, 1), 1);
    }

    private static void superstrings() {
        promise = "41 to 43";
        Run empty = new Run();
        due("empty", empty.superstringLength(), 0);
        due("empty", empty.superstringByte(0), NONE);
        due("negative", empty.superstringByte(-1), BAD_VALUE);
        due("lowest", empty.superstringByte(LOWEST), BAD_VALUE);
        sameText(Check.with("one"), "one");
        sameText(Check.with("bcd", "abc", "bc"), "abcd");
        sameText(Check.with("ab", "cd", "ef"), "abcdef");
        sameText(Check.with("xa", "ay", "az"), "xayaz");
        sameText(Check.with("xaa", "yaa", "aaz", "aaw"), "xaazyaaw");
        sameText(Check.with(repeat("a", 15) + "x", "z" + repeat("a", 15)), "z" + repeat("a", 15) + "x");
        sameText(Check.with("bbcx", "abb", "xd"), "abbcxd");
        sameText(Check.with("abb", "aab", "qa"), "qaabb");

        Run m = Check.with("cab", "abd", "b", "q");
        sameText(m, "cabdq");
        due("start", m.superstringStart(0), 0);
        due("start", m.superstringStart(1), 1);
        due("start of one inside", m.superstringStart(2), 2);
        due("start", m.superstringStart(3), 4);
        due("behind the end", m.superstringByte(5), NONE);
        due("highest", m.superstringByte(HIGHEST), NONE);
        due("not given out", m.superstringStart(4), NO_SUCH);
        due("negative", m.superstringStart(-1), NO_SUCH);
        due("remove", m.removeKeyword(1), 3);
        due("removed", m.superstringStart(1), NO_SUCH);
        sameText(m, "cabq");
        due("add", Check.add(m, "qc", 1), 4);
        sameText(m, "qcab");
        due("remove", m.removeKeyword(0), 3);
        due("a byte is asked for first", m.superstringByte(0), 'b');
        due("remove", m.removeKeyword(2), 2);
        due("a start is asked for first", m.superstringStart(4), 0);
        due("remove", m.removeKeyword(3), 1);
        sameText(m, "qc");

        Run folded = new Run();
        due("on", folded.setFolding(true), 0);
        due("add", Check.add(folded, "xAB", 1), 0);
        due("add", Check.add(folded, "abY", 1), 1);
        due("add", Check.add(folded, "Ba", 1), 2);
        due("add", Check.add(folded, "BY", 1), 3);
        sameText(folded, "xABYBa");
        due("the first occurrence with folding", folded.superstringStart(3), 2);

        Run full = new Run();
        for (int i = 0; i < 40; i++) {
            due("add", Check.add(full, repeat("" + (char) ('0' + i), 16), 1), i);
        }
        due("the longest", full.superstringLength(), 640);
        due("its last byte", full.superstringByte(639), '0' + 39);
        due("behind it", full.superstringByte(640), NONE);
        due("the last keyword", full.superstringStart(39), 624);
    }

    private static void sameText(Run m, String want) {
        due("superstringLength of " + want, m.superstringLength(), want.length());
        String got = Check.superstring(m);
        due("superstring " + want + " (got " + got + ")", got.equals(want) ? 1 : 0, 1);
    }

    private static void sameCover(Run m, int bytes, int weight, int... pairs) {
        promise = "44";
        due("coveredBytes", m.coveredBytes(), bytes);
        promise = "45";
        due("coverWeight", m.coverWeight(), weight);
        promise = "46";
        due("coverSize", m.coverSize(), pairs.length / 2);
        for (int i = 0; i < pairs.length / 2; i++) {
            promise = "47";
            due("coverStart", m.coverStart(i), pairs[2 * i]);
            promise = "48";
            due("coverKeyword", m.coverKeyword(i), pairs[2 * i + 1]);
        }
        promise = "47 and 48";
        for (int index : new int[] {pairs.length / 2, 600, HIGHEST}) {
            due("coverStart behind the last", m.coverStart(index), NONE);
            due("coverKeyword behind the last", m.coverKeyword(index), NONE);
        }
        for (int index : new int[] {-1, LOWEST}) {
            due("coverStart of a negative index", m.coverStart(index), BAD_VALUE);
            due("coverKeyword of a negative index", m.coverKeyword(index), BAD_VALUE);
        }
    }

    private static void covers() {
        sameCover(new Run(), 0, 0);
        Run bytes = Check.with("bcd", "ab", "cd");
        due("scan", Check.scan(bytes, "abcd"), 3);
        sameCover(bytes, 4, 5, 0, 1, 2, 2);

        Run weight = new Run();
        Check.add(weight, "ab", 1);
        Check.add(weight, "a", 1);
        Check.add(weight, "b", 1);
        due("scan", Check.scan(weight, "ab"), 3);
        sameCover(weight, 2, 2, 0, 1, 1, 2);

        Run fewer = new Run();
        Check.add(fewer, "a", 1);
        Check.add(fewer, "b", 1);
        Check.add(fewer, "ab", 2);
        due("scan", Check.scan(fewer, "ab"), 3);
        sameCover(fewer, 2, 2, 0, 2);

        Run early = new Run();
        Check.add(early, "bc", 3);
        Check.add(early, "ab", 3);
        due("scan", Check.scan(early, "abc"), 2);
        sameCover(early, 2, 3, 0, 1);

        Run lowest = new Run();
        Check.add(lowest, "a", 2);
        Check.add(lowest, "aa", 2);
        Check.add(lowest, "b", 1);
        due("scan", Check.scan(lowest, "aaxb"), 4);
        sameCover(lowest, 3, 5, 0, 0, 1, 0, 3, 2);

        Run number = new Run();
        Check.add(number, "aaa", 4);
        Check.add(number, "aa", 4);
        due("scan", Check.scan(number, "aaaaa"), 7);
        sameCover(number, 5, 8, 0, 0, 3, 1);
        due("remove", number.removeKeyword(0), 1);
        sameCover(number, 4, 8, 0, 1, 2, 1);

        Run full = new Run();
        Check.add(full, "a", 99);
        for (int i = 0; i < 3; i++) {
            due("scan", Check.scan(full, repeat("a", 200)), 200);
        }
        due("the most bytes", full.coveredBytes(), 600);
        due("the most weight", full.coverWeight(), 59400);
        due("the most matches", full.coverSize(), 600);
        due("the last one", full.coverStart(599), 599);
        due("many light ones against one heavy one", Check.add(full, "aa", 1), 1);
        due("weight goes before number", full.coverWeight(), 59400);
        coverAfterChanges();
    }

    private static void coverAfterChanges() {
        Run m = Check.with("ab", "bc", "c", "a");
        due("scan", Check.scan(m, "abc"), 4);
        due("coverSize", m.coverSize(), 2);
        due("remove", m.removeKeyword(1), 3);
        due("coverKeyword is asked for first", m.coverKeyword(0), 0);
        due("remove", m.removeKeyword(0), 2);
        due("coverWeight is asked for first", m.coverWeight(), 7);
        due("add", Check.add(m, "b", 1), 4);
        due("coverSize is asked for first", m.coverSize(), 3);
        due("remove", m.removeKeyword(3), 2);
        due("coverStart is asked for first", m.coverStart(0), 1);
        due("remove", m.removeKeyword(4), 1);
        due("coveredBytes is asked for first", m.coveredBytes(), 1);
    }

    private static void longestMatches() {
        promise = "49 to 51";
        Run m = Check.with("a", "ab", "bcde", "e");
        due("an empty stream", m.longestSize(), 0);
        due("scan", Check.scan(m, "xabcdea"), 5);
        due("longestSize", m.longestSize(), 3);
        int[] starts = {1, 5, 6};
        int[] numbers = {1, 3, 0};
        for (int i = 0; i < 3; i++) {
            due("longestStart", m.longestStart(i), starts[i]);
            due("longestKeyword", m.longestKeyword(i), numbers[i]);
        }
        for (int index : new int[] {3, 600, HIGHEST}) {
            due("longestStart behind the last", m.longestStart(index), NONE);
            due("longestKeyword behind the last", m.longestKeyword(index), NONE);
        }
        for (int index : new int[] {-1, LOWEST}) {
            due("longestStart of a negative index", m.longestStart(index), BAD_VALUE);
            due("longestKeyword of a negative index", m.longestKeyword(index), BAD_VALUE);
        }
        due("remove", m.removeKeyword(1), 3);
        due("other ones now", m.longestKeyword(1), 2);
        due("the cover does not disturb it", m.coverSize(), 3);
        due("longestSize", m.longestSize(), 3);
    }

    private static void longestAfterChanges() {
        Run m = Check.with("a", "ab", "abc");
        due("scan", Check.scan(m, "abca"), 4);
        due("longestSize", m.longestSize(), 2);
        due("the first byte", m.longestStart(0), 0);
        due("remove", m.removeKeyword(0), 2);
        due("longestStart is asked for first", m.longestStart(1), NONE);
        due("remove", m.removeKeyword(2), 1);
        due("longestKeyword is asked for first", m.longestKeyword(0), 1);
        due("remove", m.removeKeyword(1), 0);
        due("longestSize is asked for first", m.longestSize(), 0);
    }
}
