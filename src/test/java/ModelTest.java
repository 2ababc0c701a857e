import java.util.List;
import java.util.Random;

/** Random runs of calls, each answer held against the plain model; the seeds are fixed. */
public final class ModelTest {
    private static final String[] ALPHABETS = {"a", "ab", "aAbB", "abcd", "xyzXYZ@[`{", "!~"};

    private final Random random;
    private final KeywordMatcher m = new KeywordMatcher();
    private final PlainModel plain = new PlainModel();
    private final String alphabet;
    private final int longest;
    private final String name;

    private ModelTest(int seed) {
        random = new Random(seed);
        alphabet = ALPHABETS[seed % ALPHABETS.length];
        longest = new int[] {3, 16, 5, 8}[seed / ALPHABETS.length % 4];
        name = "seed " + seed + " ";
    }

    public static void main(String[] args) {
        for (int seed = 0; seed < 144 && Check.allRight(); seed++) {
            new ModelTest(seed).run();
        }
        Check.finish("ModelTest");
    }

    private void due(String call, long got, long want) {
        Check.due(name + call, got, want);
    }

    private void run() {
        boolean on = random.nextBoolean();
        due("setFolding", m.setFolding(on), plain.setFolding(on));
        int calls = random.nextInt(8) == 0 ? 500 : 120;
        for (int i = 0; i < calls && Check.allRight(); i++) {
            change();
            if (i % 8 == 0) {
                compareCounts();
                compareLists();
                compareKeywords();
                compareLevels();
            }
        }
    }

    private void change() {
        switch (random.nextInt(12)) {
            case 0, 1, 2, 3 -> add();
            case 4, 5 -> remove();
            case 6, 7, 8 -> scan();
            case 9 -> findOne();
            case 10 -> strange();
            default -> rare();
        }
    }

    private String word(int length) {
        StringBuilder word = new StringBuilder();
        for (int i = 0; i < length; i++) {
            word.append(alphabet.charAt(random.nextInt(alphabet.length())));
        }
        return word.toString();
    }

    private void feed(String text) {
        for (int i = 0; i < text.length(); i += 20) {
            int a = Check.four(text, i);
            int b = Check.four(text, i + 4);
            int c = Check.four(text, i + 8);
            int d = Check.four(text, i + 12);
            int e = Check.four(text, i + 16);
            due("appendBytes", m.appendBytes(a, b, c, d, e), plain.appendBytes(a, b, c, d, e));
        }
        due("bufferLength", m.bufferLength(), plain.buffer.length());
    }

    private void add() {
        String text = word(1 + random.nextInt(longest));
        int weight = 1 + random.nextInt(3);
        feed(text);
        due("addKeyword " + text, m.addKeyword(text.length(), weight), plain.addKeyword(text.length(), weight));
        due("bufferLength", m.bufferLength(), plain.buffer.length());
    }

    private void remove() {
        int keyword = random.nextInt(plain.texts.size() + 1);
        due("removeKeyword " + keyword, m.removeKeyword(keyword), plain.removeKeyword(keyword));
    }

    private void scan() {
        String text = random.nextInt(4) == 0 ? word(random.nextInt(60)) : word(random.nextInt(12));
        if (random.nextInt(4) == 0) {
            text += (char) random.nextInt(256);
        }
        feed(text);
        due("scan " + text, m.scan(text.length()), plain.scan(text.length()));
        due("bufferLength", m.bufferLength(), plain.buffer.length());
    }

    private void findOne() {
        String text = word(random.nextInt(longest + 1));
        feed(text);
        due("findKeyword " + text, m.findKeyword(text.length()), plain.findKeyword(text.length()));
    }

    private void strange() {
        if (random.nextBoolean()) {
            feed(word(random.nextInt(250)));
        }
        int n = random.nextInt(220) - 5;
        int weight = random.nextInt(110) - 5;
        switch (random.nextInt(3)) {
            case 0 -> due("addKeyword", m.addKeyword(n, weight), plain.addKeyword(n, weight));
            case 1 -> due("findKeyword", m.findKeyword(n), plain.findKeyword(n));
            default -> due("scan", m.scan(n), plain.scan(n));
        }
    }

    private void rare() {
        switch (random.nextInt(4)) {
            case 0 -> due("resetStream", m.resetStream(), plain.resetStream());
            case 1 -> {
                for (int keyword = 0; keyword < plain.texts.size() && random.nextInt(30) > 0; keyword++) {
                    due("removeKeyword " + keyword, m.removeKeyword(keyword), plain.removeKeyword(keyword));
                }
            }
            case 2 -> due("resetStream", m.resetStream(), plain.resetStream());
            default -> {
                boolean on = random.nextBoolean();
                due("setFolding", m.setFolding(on), plain.setFolding(on));
            }
        }
    }

    private void compareCounts() {
        due("liveCount", m.liveCount(), plain.liveNumbers().size());
        due("buildWork", m.buildWork(), plain.work);
        due("rebuildCount", m.rebuildCount(), plain.rebuilds);
        due("streamLength", m.streamLength(), plain.stream.length());
        due("reportCount", m.reportCount(), plain.reports.size());
        due("matchCount", m.matchCount(), plain.matches().size());
        due("overlappingPairs", m.overlappingPairs(), plain.overlappingPairs());
        due("maximumDepth", m.maximumDepth(), plain.maximumDepth());
        due("containedMatches", m.containedMatches(), plain.containedMatches());
        due("gapStart", m.gapStart(), plain.gap()[0]);
        due("gapLength", m.gapLength(), plain.gap()[1]);
    }

    private void compareLists() {
        List<PlainModel.Match> cover = plain.cover();
        due("coveredBytes", m.coveredBytes(), PlainModel.worth(cover)[0]);
        due("coverWeight", m.coverWeight(), PlainModel.worth(cover)[1]);
        due("coverSize", m.coverSize(), cover.size());
        List<PlainModel.Match> longestOnes = plain.longest();
        due("longestSize", m.longestSize(), longestOnes.size());
        for (int i = -1; i < 40; i++) {
            int missing = i < 0 ? PlainModel.BAD_VALUE : PlainModel.NONE;
            boolean inCover = i >= 0 && i < cover.size();
            due("coverStart " + i, m.coverStart(i), inCover ? cover.get(i).start() : missing);
            due("coverKeyword " + i, m.coverKeyword(i), inCover ? cover.get(i).keyword() : missing);
            boolean inLongest = i >= 0 && i < longestOnes.size();
            due("longestStart " + i, m.longestStart(i), inLongest ? longestOnes.get(i).start() : missing);
            due("longestKeyword " + i, m.longestKeyword(i), inLongest ? longestOnes.get(i).keyword() : missing);
            int report = i < 0 ? i : random.nextInt(320);
            due("reportEnd " + report, m.reportEnd(report), plain.report(report, 0));
            due("reportKeyword " + report, m.reportKeyword(report), plain.report(report, 1));
            int position = i < 0 ? i : random.nextInt(plain.stream.length() + 2);
            due("streamByte " + position, m.streamByte(position), plain.streamByte(position));
        }
        String superstring = plain.superstring();
        due("superstringLength", m.superstringLength(), superstring.length());
        for (int i = 0; i < superstring.length(); i++) {
            due("superstringByte " + i, m.superstringByte(i), superstring.charAt(i));
        }
        due("superstringByte", m.superstringByte(superstring.length()), PlainModel.NONE);
    }

    private void compareKeywords() {
        for (int i = 0; i < 12; i++) {
            int k = random.nextInt(plain.texts.size() + 2) - 1;
            int other = random.nextInt(plain.texts.size() + 2) - 1;
            int n = random.nextInt(19) - 1;
            due("keywordLength", m.keywordLength(k), plain.keywordLength(k));
            due("keywordByte", m.keywordByte(k, n), plain.keywordByte(k, n));
            due("keywordWeight", m.keywordWeight(k), plain.keywordWeight(k));
            due("isLive", m.isLive(k), plain.isLive(k));
            due("levelOf", m.levelOf(k), plain.levelOf(k));
            due("failureLength " + k + " " + n, m.failureLength(k, n), plain.failureLength(k, n));
            due("matchCountOf", m.matchCountOf(k), plain.matchCountOf(k));
            int position = random.nextInt(plain.stream.length() + 3) - 1;
            due("nextMatch", m.nextMatch(k, position), plain.nextMatch(k, position));
            due("overlapLength", m.overlapLength(k, other), plain.overlapLength(k, other));
            int mismatches = random.nextInt(6) - 1;
            due("nearMatchCount", m.nearMatchCount(k, mismatches), plain.nearMatchCount(k, mismatches));
            due("fewestMismatches", m.fewestMismatches(k), plain.fewestMismatches(k));
            due("nearestStart", m.nearestStart(k), plain.nearestStart(k));
            due("superstringStart", m.superstringStart(k), plain.superstringStart(k));
        }
    }

    private void compareLevels() {
        for (int level = -1; level <= 7; level++) {
            due("mainSize", m.mainSize(level), PlainModel.size(plain.main, level));
            due("removalSize", m.removalSize(level), PlainModel.size(plain.removal, level));
            due("stateCount " + level, m.stateCount(level), plain.stateCount(level));
            due("currentDepth " + level, m.currentDepth(level), plain.currentDepth(level));
        }
        int count = random.nextInt(43) - 1;
        due("plannedWork " + count, m.plannedWork(count), plain.plannedWork(count));
    }
}
