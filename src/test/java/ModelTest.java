import java.util.List;
import java.util.Random;

/** Random runs of 512 calls, each answer held against the plain model; the seeds are fixed. */
public final class ModelTest {
    private static final int SEEDS = 960;
    private static final int DEAREST_CHANGE = 20;
    private static final String[] ALPHABETS = {"a", "ab", "aAbB", "abcd", "xyzXYZ@[`{", "!~"};
    private static final int[] LONGEST = {3, 16, 5, 8};
    private static final int[] QUESTIONS_IN_HUNDRED = {10, 30, 60};
    /** Of twelve changes, how many add, remove and scan; the others are rarer calls. */
    private static final int[][] MOODS = {{4, 2, 3}, {6, 4, 0}, {2, 1, 7}, {8, 1, 1}, {5, 5, 1}};

    private final Random random;
    private final Run m = new Run();
    private final PlainModel plain = new PlainModel();
    private final String alphabet;
    private final int longest;
    private final int questions;
    private final int[] mood;
    private final String name;

    private ModelTest(int seed) {
        random = new Random(seed);
        alphabet = ALPHABETS[seed % ALPHABETS.length];
        longest = LONGEST[random.nextInt(LONGEST.length)];
        questions = QUESTIONS_IN_HUNDRED[random.nextInt(QUESTIONS_IN_HUNDRED.length)];
        mood = MOODS[random.nextInt(MOODS.length)];
        name = "seed " + seed + " ";
    }

    public static void main(String[] args) {
        for (int seed = 0; seed < SEEDS && Check.allRight(); seed++) {
            new ModelTest(seed).run();
        }
        Check.finish("ModelTest");
    }

    private void due(String call, long got, long want) {
        Check.due(name + call, got, want);
    }

    private void run() {
        boolean on = random.nextBoolean();
        due("setFolding", m.setFolding(on), plain.setFolding(on));
        while (m.left() > DEAREST_CHANGE + 40 && Check.allRight()) {
            if (random.nextInt(100) < questions) {
                ask();
            } else {
                change();
            }
        }
        while (m.left() > 0 && Check.allRight()) {
            ask();
        }
    }

    private void change() {
        int which = random.nextInt(12);
        if (which < mood[0]) {
            add();
        } else if (which < mood[0] + mood[1]) {
            remove();
        } else if (which < mood[0] + mood[1] + mood[2]) {
            scan();
        } else if (random.nextInt(3) > 0) {
            strange();
        } else {
            rare();
        }
    }

    private String word(int length) {
        StringBuilder word = new StringBuilder();
        for (int i = 0; i < length; i++) {
            word.append(alphabet.charAt(random.nextInt(alphabet.length())));
        }
        return word.toString();
    }

    private void feed(String text) {
        for (int i = 0; i < text.length(); i += 20) {
            int want = plain.appendBytes(Check.four(text, i), Check.four(text, i + 4), Check.four(text, i + 8),
                    Check.four(text, i + 12), Check.four(text, i + 16));
            due("appendBytes", Check.append(m, text, i), want);
        }
    }

    private void add() {
        String text = word(1 + random.nextInt(longest));
        int weight = 1 + random.nextInt(3);
        feed(text);
        due("addKeyword " + text, m.addKeyword(text.length(), weight), plain.addKeyword(text.length(), weight));
    }

    private void remove() {
        int keyword = random.nextInt(plain.texts.size() + 1);
        for (int i = 0; i < 3 && !plain.lives(keyword); i++) {
            keyword = random.nextInt(plain.texts.size() + 1);
        }
        due("removeKeyword " + keyword, m.removeKeyword(keyword), plain.removeKeyword(keyword));
    }

    private void scan() {
        String text = random.nextInt(4) == 0 ? word(random.nextInt(90)) : word(random.nextInt(12));
        if (random.nextInt(4) == 0) {
            text += (char) random.nextInt(256);
        }
        feed(text);
        due("scan " + text, m.scan(text.length()), plain.scan(text.length()));
    }

    private void strange() {
        if (random.nextBoolean()) {
            feed(word(random.nextInt(250)));
        }
        int n = random.nextBoolean() ? random.nextInt(220) - 5 : random.nextInt(longest + 2);
        int weight = random.nextInt(110) - 5;
        switch (random.nextInt(4)) {
            case 0 -> due("addKeyword", m.addKeyword(n, weight), plain.addKeyword(n, weight));
            case 1, 2 -> due("findKeyword", m.findKeyword(n), plain.findKeyword(n));
            default -> due("scan", m.scan(n), plain.scan(n));
        }
    }

    private void rare() {
        switch (random.nextInt(3)) {
            case 0 -> due("resetStream", m.resetStream(), plain.resetStream());
            case 1 -> {
                for (int keyword : plain.liveNumbers()) {
                    due("removeKeyword " + keyword, m.removeKeyword(keyword), plain.removeKeyword(keyword));
                }
            }
            default -> {
                boolean on = random.nextBoolean();
                due("setFolding", m.setFolding(on), plain.setFolding(on));
            }
        }
    }

    private void ask() {
        switch (random.nextInt(8)) {
            case 0 -> askForCounts();
            case 1 -> askForMatches();
            case 2 -> askForLists();
            case 3 -> askForStored();
            case 4 -> askForSuperstring();
            case 5 -> askForLevel(random.nextInt(9) - 1);
            case 6 -> askForKeyword(random.nextInt(plain.texts.size() + 2) - 1);
            default -> askForLiving(random.nextInt(plain.texts.size() + 2) - 1);
        }
    }

    private void askForCounts() {
        switch (random.nextInt(7)) {
            case 0 -> due("liveCount", m.liveCount(), plain.liveNumbers().size());
            case 1 -> due("buildWork", m.buildWork(), plain.work);
            case 2 -> due("rebuildCount", m.rebuildCount(), plain.rebuilds);
            case 3 -> due("streamLength", m.streamLength(), plain.stream.length());
            case 4 -> due("reportCount", m.reportCount(), plain.reports.size());
            case 5 -> due("bufferLength", m.bufferLength(), plain.buffer.length());
            default -> {
                int count = random.nextInt(43) - 1;
                due("plannedWork " + count, m.plannedWork(count), plain.plannedWork(count));
            }
        }
    }

    private void askForMatches() {
        switch (random.nextInt(6)) {
            case 0 -> due("matchCount", m.matchCount(), plain.matches().size());
            case 1 -> due("overlappingPairs", m.overlappingPairs(), plain.overlappingPairs());
            case 2 -> due("maximumDepth", m.maximumDepth(), plain.maximumDepth());
            case 3 -> due("containedMatches", m.containedMatches(), plain.containedMatches());
            case 4 -> due("gapStart", m.gapStart(), plain.gap()[0]);
            default -> due("gapLength", m.gapLength(), plain.gap()[1]);
        }
    }

    private void askForLists() {
        boolean ofCover = random.nextBoolean();
        List<PlainModel.Match> list = ofCover ? plain.cover() : plain.longest();
        int i = random.nextInt(list.size() + 2) - 1;
        boolean there = i >= 0 && i < list.size();
        int missing = i < 0 ? PlainModel.BAD_VALUE : PlainModel.NONE;
        int start = there ? list.get(i).start() : missing;
        int keyword = there ? list.get(i).keyword() : missing;
        switch (random.nextInt(ofCover ? 5 : 3)) {
            case 0 -> due("size", ofCover ? m.coverSize() : m.longestSize(), list.size());
            case 1 -> due("start " + i, ofCover ? m.coverStart(i) : m.longestStart(i), start);
            case 2 -> due("keyword " + i, ofCover ? m.coverKeyword(i) : m.longestKeyword(i), keyword);
            case 3 -> due("coveredBytes", m.coveredBytes(), PlainModel.worth(list)[0]);
            default -> due("coverWeight", m.coverWeight(), PlainModel.worth(list)[1]);
        }
    }

    private void askForStored() {
        int report = random.nextInt(Math.min(plain.reports.size(), 310) + 2) - 1;
        int position = random.nextInt(plain.stream.length() + 2) - 1;
        switch (random.nextInt(3)) {
            case 0 -> due("reportEnd " + report, m.reportEnd(report), plain.report(report, 0));
            case 1 -> due("reportKeyword " + report, m.reportKeyword(report), plain.report(report, 1));
            default -> due("streamByte " + position, m.streamByte(position), plain.streamByte(position));
        }
    }

    private void askForSuperstring() {
        String text = plain.superstring();
        int index = random.nextInt(text.length() + 2) - 1;
        int keyword = random.nextInt(plain.texts.size() + 2) - 1;
        switch (random.nextInt(3)) {
            case 0 -> due("superstringLength", m.superstringLength(), text.length());
            case 1 -> due("superstringByte " + index, m.superstringByte(index), plain.superstringByte(index));
            default -> due("superstringStart " + keyword, m.superstringStart(keyword), plain.superstringStart(keyword));
        }
    }

    private void askForLevel(int level) {
        switch (random.nextInt(4)) {
            case 0 -> due("mainSize " + level, m.mainSize(level), PlainModel.size(plain.main, level));
            case 1 -> due("removalSize " + level, m.removalSize(level), PlainModel.size(plain.removal, level));
            case 2 -> due("stateCount " + level, m.stateCount(level), plain.stateCount(level));
            default -> due("currentDepth " + level, m.currentDepth(level), plain.currentDepth(level));
        }
    }

    private void askForKeyword(int k) {
        int other = random.nextInt(plain.texts.size() + 2) - 1;
        int n = random.nextInt(Math.max(plain.keywordLength(k), 0) + 3) - 1;
        switch (random.nextInt(8)) {
            case 0 -> due("keywordLength " + k, m.keywordLength(k), plain.keywordLength(k));
            case 1 -> due("keywordByte " + k + " " + n, m.keywordByte(k, n), plain.keywordByte(k, n));
            case 2 -> due("keywordWeight " + k, m.keywordWeight(k), plain.keywordWeight(k));
            case 3 -> due("isLive " + k, m.isLive(k), plain.isLive(k));
            case 4 -> due("levelOf " + k, m.levelOf(k), plain.levelOf(k));
            case 5 -> due("overlapLength " + k + " " + other, m.overlapLength(k, other), plain.overlapLength(k, other));
            default -> due("failureLength " + k + " " + n, m.failureLength(k, n), plain.failureLength(k, n));
        }
    }

    private void askForLiving(int k) {
        int position = random.nextInt(plain.stream.length() + 3) - 1;
        int mismatches = random.nextInt(6) - 1;
        switch (random.nextInt(5)) {
            case 0 -> due("matchCountOf " + k, m.matchCountOf(k), plain.matchCountOf(k));
            case 1 -> due("nextMatch " + k + " " + position, m.nextMatch(k, position), plain.nextMatch(k, position));
            case 2 -> due("nearMatchCount " + k + " " + mismatches, m.nearMatchCount(k, mismatches),
                    plain.nearMatchCount(k, mismatches));
            case 3 -> due("fewestMismatches " + k, m.fewestMismatches(k), plain.fewestMismatches(k));
            default -> due("nearestStart " + k, m.nearestStart(k), plain.nearestStart(k));
        }
    }
}
