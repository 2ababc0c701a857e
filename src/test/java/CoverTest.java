import java.util.ArrayList;
import java.util.Arrays;
import java.util.List;
import java.util.Random;

/** Promises 44 to 48 on tiny streams: all covers are listed, and the document's choice is followed by its words. */
public final class CoverTest {
    private CoverTest() {
    }

    public static void main(String[] args) {
        for (int seed = 0; seed < 600 && Check.allRight(); seed++) {
            compare(seed);
        }
        Check.finish("CoverTest");
    }

    private static void compare(int seed) {
        Random random = new Random(seed);
        Run m = new Run();
        PlainModel plain = new PlainModel();
        for (int i = 0; i < 5; i++) {
            String text = word(random, 1 + random.nextInt(4));
            int weight = 1 + random.nextInt(3);
            plain.buffer = text;
            Check.due("add " + text, Check.add(m, text, weight), plain.addKeyword(text.length(), weight));
        }
        String stream = word(random, 4 + random.nextInt(6));
        plain.buffer = stream;
        Check.due("scan " + stream, Check.scan(m, stream), plain.scan(stream.length()));
        List<PlainModel.Match> want = choose(bestCovers(plain.matches()), stream.length());
        Check.due("seed " + seed + " coverSize", m.coverSize(), want.size());
        Check.due("seed " + seed + " coveredBytes", m.coveredBytes(), PlainModel.worth(want)[0]);
        Check.due("seed " + seed + " coverWeight", m.coverWeight(), PlainModel.worth(want)[1]);
        for (int i = 0; i < want.size(); i++) {
            Check.due("seed " + seed + " coverStart " + i, m.coverStart(i), want.get(i).start());
            Check.due("seed " + seed + " coverKeyword " + i, m.coverKeyword(i), want.get(i).keyword());
        }
    }

    private static String word(Random random, int length) {
        StringBuilder word = new StringBuilder();
        for (int i = 0; i < length; i++) {
            word.append("aaab".charAt(random.nextInt(4)));
        }
        return word.toString();
    }

    private static List<List<PlainModel.Match>> bestCovers(List<PlainModel.Match> matches) {
        List<List<PlainModel.Match>> all = new ArrayList<>();
        all.add(List.of());
        for (PlainModel.Match match : matches) {
            for (List<PlainModel.Match> cover : new ArrayList<>(all)) {
                if (cover.stream().noneMatch(match::meets)) {
                    List<PlainModel.Match> more = new ArrayList<>(cover);
                    more.add(match);
                    all.add(more);
                }
            }
        }
        int[] best = all.stream().map(PlainModel::worth).max(Arrays::compare).orElseThrow();
        return all.stream().filter(cover -> Arrays.equals(PlainModel.worth(cover), best)).toList();
    }

    private static List<PlainModel.Match> choose(List<List<PlainModel.Match>> best, int length) {
        List<PlainModel.Match> chosen = new ArrayList<>();
        int position = 0;
        while (position < length) {
            PlainModel.Match next = null;
            for (List<PlainModel.Match> cover : best) {
                for (PlainModel.Match match : cover) {
                    boolean fits = match.start() == position && agrees(cover, chosen, position);
                    next = fits && (next == null || match.keyword() < next.keyword()) ? match : next;
                }
            }
            if (next != null) {
                chosen.add(next);
            }
            position = next == null ? position + 1 : next.end() + 1;
        }
        return chosen;
    }

    private static boolean agrees(List<PlainModel.Match> cover, List<PlainModel.Match> chosen, int position) {
        return cover.containsAll(chosen)
                && cover.stream().allMatch(match -> match.start() >= position || chosen.contains(match));
    }
}
