import java.util.ArrayList;
import java.util.Arrays;
import java.util.List;

/** The document told again as plainly as can be, without any thought of speed; what the class is held against. */
final class PlainModel {
    static final int NONE = -1;
    static final int NO_SUCH = -2;
    static final int BAD_VALUE = -3;
    static final int BAD_TEXT = -4;
    static final int DUPLICATE = -5;
    static final int FULL = -6;
    static final int BUSY = -7;

    record Match(int start, int keyword, int length, int weight) {
        int end() {
            return start + length - 1;
        }

        boolean meets(Match other) {
            return start <= other.end() && other.start <= end();
        }
    }

    String buffer = "";
    String stream = "";
    boolean folding = false;
    final List<String> texts = new ArrayList<>();
    final List<Integer> weights = new ArrayList<>();
    final List<Boolean> live = new ArrayList<>();
    final List<List<Integer>> main = emptySet();
    final List<List<Integer>> removal = emptySet();
    final List<int[]> reports = new ArrayList<>();
    int work = 0;
    int rebuilds = 0;

    static List<List<Integer>> emptySet() {
        List<List<Integer>> levels = new ArrayList<>();
        for (int i = 0; i < 7; i++) {
            levels.add(null);
        }
        return levels;
    }

    String fold(String text) {
        if (!folding) {
            return text;
        }
        StringBuilder folded = new StringBuilder();
        for (char c : text.toCharArray()) {
            folded.append(c >= 'A' && c <= 'Z' ? (char) (c + 32) : c);
        }
        return folded.toString();
    }

    boolean isNumber(int k) {
        return k >= 0 && k < texts.size();
    }

    boolean lives(int k) {
        return isNumber(k) && live.get(k);
    }

    List<Integer> liveNumbers() {
        List<Integer> numbers = new ArrayList<>();
        for (int k = 0; k < texts.size(); k++) {
            if (live.get(k)) {
                numbers.add(k);
            }
        }
        return numbers;
    }

    int appendBytes(int a, int b, int c, int d, int e) {
        if (buffer.length() + 20 > 200) {
            return FULL;
        }
        for (int word : new int[] {a, b, c, d, e}) {
            buffer += (char) (word >>> 24);
            buffer += (char) (word >>> 16 & 255);
            buffer += (char) (word >>> 8 & 255);
            buffer += (char) (word & 255);
        }
        return buffer.length();
    }

    int addKeyword(int n, int weight) {
        if (n < 0 || n > buffer.length() || weight < 1 || weight > 99) {
            return BAD_VALUE;
        }
        String text = buffer.substring(0, n);
        buffer = "";
        if (n == 0 || n > 16 || !text.chars().allMatch(c -> c >= 33 && c <= 126)) {
            return BAD_TEXT;
        }
        if (equalTo(text) != NONE) {
            return DUPLICATE;
        }
        if (liveNumbers().size() == 40 || texts.size() == 120) {
            return FULL;
        }
        texts.add(text);
        weights.add(weight);
        live.add(true);
        insert(main, texts.size() - 1);
        return texts.size() - 1;
    }

    int equalTo(String text) {
        for (int k : liveNumbers()) {
            if (fold(texts.get(k)).equals(fold(text))) {
                return k;
            }
        }
        return NONE;
    }

    void insert(List<List<Integer>> set, int keyword) {
        work += insertInto(set, keyword);
    }

    static int insertInto(List<List<Integer>> set, int keyword) {
        List<Integer> bucket = new ArrayList<>(List.of(keyword));
        int level = 0;
        while (set.get(level) != null) {
            bucket.addAll(set.get(level));
            set.set(level, null);
            level++;
        }
        set.set(level, bucket);
        return bucket.size();
    }

    static int total(List<List<Integer>> set) {
        return set.stream().mapToInt(b -> b == null ? 0 : b.size()).sum();
    }

    int removeKeyword(int k) {
        if (!lives(k)) {
            return NO_SUCH;
        }
        live.set(k, false);
        insert(removal, k);
        if (2 * total(removal) >= total(main)) {
            rebuilds++;
            for (int level = 0; level < 7; level++) {
                main.set(level, null);
                removal.set(level, null);
            }
            for (int other : liveNumbers()) {
                insert(main, other);
            }
        }
        return liveNumbers().size();
    }

    int findKeyword(int n) {
        if (n < 0 || n > buffer.length()) {
            return BAD_VALUE;
        }
        String text = buffer.substring(0, n);
        buffer = "";
        return equalTo(text);
    }

    int keywordLength(int k) {
        return isNumber(k) ? texts.get(k).length() : NO_SUCH;
    }

    int keywordByte(int k, int index) {
        if (!isNumber(k)) {
            return NO_SUCH;
        }
        if (index < 0) {
            return BAD_VALUE;
        }
        return index < texts.get(k).length() ? texts.get(k).charAt(index) : NONE;
    }

    int keywordWeight(int k) {
        return isNumber(k) ? weights.get(k) : NO_SUCH;
    }

    int isLive(int k) {
        return !isNumber(k) ? NO_SUCH : live.get(k) ? 1 : 0;
    }

    int setFolding(boolean on) {
        if (!liveNumbers().isEmpty() || !stream.isEmpty()) {
            return BUSY;
        }
        int before = folding ? 1 : 0;
        folding = on;
        return before;
    }

    static int size(List<List<Integer>> set, int level) {
        if (level < 0 || level > 6) {
            return BAD_VALUE;
        }
        return set.get(level) == null ? 0 : set.get(level).size();
    }

    List<String> prefixes(int level) {
        List<String> prefixes = new ArrayList<>();
        for (int k : main.get(level)) {
            for (int n = 0; n <= texts.get(k).length(); n++) {
                prefixes.add(fold(texts.get(k).substring(0, n)));
            }
        }
        return prefixes;
    }

    int stateCount(int level) {
        if (level < 0 || level > 6) {
            return BAD_VALUE;
        }
        return main.get(level) == null ? NONE : (int) prefixes(level).stream().distinct().count();
    }

    int currentDepth(int level) {
        if (level < 0 || level > 6) {
            return BAD_VALUE;
        }
        if (main.get(level) == null) {
            return NONE;
        }
        int depth = 0;
        String folded = fold(stream);
        for (String prefix : prefixes(level)) {
            if (folded.endsWith(prefix)) {
                depth = Math.max(depth, prefix.length());
            }
        }
        return depth;
    }

    int levelOf(int k) {
        if (!isNumber(k)) {
            return NO_SUCH;
        }
        for (int level = 0; level < 7; level++) {
            if (main.get(level) != null && main.get(level).contains(k)) {
                return level;
            }
        }
        return NONE;
    }

    int failureLength(int k, int length) {
        if (!isNumber(k)) {
            return NO_SUCH;
        }
        if (length < 1 || length > texts.get(k).length()) {
            return BAD_VALUE;
        }
        if (levelOf(k) == NONE) {
            return NONE;
        }
        String prefix = fold(texts.get(k).substring(0, length));
        int longest = 0;
        for (String other : prefixes(levelOf(k))) {
            if (other.length() < length && prefix.endsWith(other)) {
                longest = Math.max(longest, other.length());
            }
        }
        return longest;
    }

    int plannedWork(int count) {
        if (count < 0 || count > 40) {
            return BAD_VALUE;
        }
        List<List<Integer>> copy = new ArrayList<>(main);
        int growth = 0;
        for (int i = 0; i < count; i++) {
            growth += insertInto(copy, 1000 + i);
        }
        return growth;
    }

    int scan(int n) {
        if (n < 0 || n > buffer.length()) {
            return BAD_VALUE;
        }
        String text = buffer.substring(0, n);
        buffer = "";
        if (stream.length() + n > 600) {
            return FULL;
        }
        int before = reports.size();
        for (char c : text.toCharArray()) {
            stream += c;
            String folded = fold(stream);
            List<Integer> ending = new ArrayList<>();
            for (int k : liveNumbers()) {
                if (folded.endsWith(fold(texts.get(k)))) {
                    ending.add(k);
                }
            }
            ending.sort((x, y) -> texts.get(y).length() - texts.get(x).length());
            for (int k : ending) {
                reports.add(new int[] {stream.length() - 1, k});
            }
        }
        return reports.size() - before;
    }

    int resetStream() {
        int before = stream.length();
        stream = "";
        reports.clear();
        return before;
    }

    int streamByte(int position) {
        return position < 0 ? BAD_VALUE : position < stream.length() ? stream.charAt(position) : NONE;
    }

    int report(int index, int part) {
        return index < 0 ? BAD_VALUE : index < Math.min(300, reports.size()) ? reports.get(index)[part] : NONE;
    }

    List<Match> matches() {
        List<Match> found = new ArrayList<>();
        String folded = fold(stream);
        for (int start = 0; start < stream.length(); start++) {
            for (int k : liveNumbers()) {
                if (folded.startsWith(fold(texts.get(k)), start)) {
                    found.add(new Match(start, k, texts.get(k).length(), weights.get(k)));
                }
            }
        }
        return found;
    }

    int matchCountOf(int k) {
        return lives(k) ? (int) matches().stream().filter(m -> m.keyword == k).count() : NO_SUCH;
    }

    int nextMatch(int k, int position) {
        if (!lives(k)) {
            return NO_SUCH;
        }
        if (position < 0) {
            return BAD_VALUE;
        }
        return matches().stream().filter(m -> m.keyword == k && m.start >= position).mapToInt(Match::start).min()
                .orElse(NONE);
    }

    int overlappingPairs() {
        List<Match> all = matches();
        int pairs = 0;
        for (int i = 0; i < all.size(); i++) {
            for (int j = 0; j < i; j++) {
                pairs += all.get(i).meets(all.get(j)) ? 1 : 0;
            }
        }
        return pairs;
    }

    int depth(List<Match> all, int position) {
        return (int) all.stream().filter(m -> m.start <= position && position <= m.end()).count();
    }

    int maximumDepth() {
        List<Match> all = matches();
        int most = 0;
        for (int p = 0; p < stream.length(); p++) {
            most = Math.max(most, depth(all, p));
        }
        return most;
    }

    int containedMatches() {
        List<Match> all = matches();
        return (int) all.stream().filter(m -> all.stream()
                .anyMatch(o -> o.length > m.length && o.start <= m.start && m.end() <= o.end())).count();
    }

    int[] gap() {
        List<Match> all = matches();
        int[] best = {NONE, 0};
        for (int p = 0; p < stream.length(); p++) {
            int behind = p;
            while (behind < stream.length() && depth(all, behind) == 0) {
                behind++;
            }
            if (behind - p > best[1]) {
                best = new int[] {p, behind - p};
            }
        }
        return best;
    }

    static int overlap(String x, String y) {
        int longest = 0;
        for (int n = 0; n <= 15 && n < x.length() && n < y.length(); n++) {
            longest = x.endsWith(y.substring(0, n)) ? n : longest;
        }
        return longest;
    }

    int overlapLength(int first, int second) {
        if (!isNumber(first) || !isNumber(second)) {
            return NO_SUCH;
        }
        return overlap(fold(texts.get(first)), fold(texts.get(second)));
    }

    List<Integer> mismatches(int k) {
        List<Integer> counts = new ArrayList<>();
        String text = fold(texts.get(k));
        String folded = fold(stream);
        for (int p = 0; p + text.length() <= stream.length(); p++) {
            int count = 0;
            for (int i = 0; i < text.length(); i++) {
                count += text.charAt(i) == folded.charAt(p + i) ? 0 : 1;
            }
            counts.add(count);
        }
        return counts;
    }

    int nearMatchCount(int k, int most) {
        if (!lives(k)) {
            return NO_SUCH;
        }
        if (most < 0 || most > 3) {
            return BAD_VALUE;
        }
        return (int) mismatches(k).stream().filter(c -> c <= most).count();
    }

    int fewestMismatches(int k) {
        return lives(k) ? mismatches(k).stream().mapToInt(c -> c).min().orElse(NONE) : NO_SUCH;
    }

    int nearestStart(int k) {
        return lives(k) ? mismatches(k).indexOf(fewestMismatches(k)) : NO_SUCH;
    }

    String superstring() {
        List<String> list = new ArrayList<>();
        for (int k : liveNumbers()) {
            boolean inside = false;
            for (int other : liveNumbers()) {
                inside |= other != k && fold(texts.get(other)).contains(fold(texts.get(k)));
            }
            if (!inside) {
                list.add(texts.get(k));
            }
        }
        while (list.size() >= 2) {
            int[] best = {-1, -1, -1};
            for (int x = 0; x < list.size(); x++) {
                for (int y = 0; y < list.size(); y++) {
                    int n = x == y ? -1 : overlap(fold(list.get(x)), fold(list.get(y)));
                    best = n > best[0] ? new int[] {n, x, y} : best;
                }
            }
            list.set(best[1], list.get(best[1]) + list.get(best[2]).substring(best[0]));
            list.remove(best[2]);
        }
        return list.isEmpty() ? "" : list.get(0);
    }

    int superstringByte(int index) {
        String text = index < 0 ? "" : superstring();
        return index < 0 ? BAD_VALUE : index < text.length() ? text.charAt(index) : NONE;
    }

    int superstringStart(int k) {
        return lives(k) ? fold(superstring()).indexOf(fold(texts.get(k))) : NO_SUCH;
    }

    /** Bytes, weight and the negated number of matches: the larger row is the better cover. */
    static int[] worth(List<Match> cover) {
        return new int[] {cover.stream().mapToInt(Match::length).sum(),
            cover.stream().mapToInt(Match::weight).sum(), -cover.size()};
    }

    /** The best cover; of those behind each position only the first one in the order of the document is kept. */
    List<Match> cover() {
        List<Match> all = matches();
        List<List<Match>> behind = new ArrayList<>();
        for (int p = 0; p <= stream.length(); p++) {
            behind.add(List.of());
        }
        for (int p = stream.length() - 1; p >= 0; p--) {
            List<Match> best = null;
            for (Match m : all) {
                if (m.start == p) {
                    List<Match> cover = new ArrayList<>(List.of(m));
                    cover.addAll(behind.get(m.end() + 1));
                    boolean better = best == null || Arrays.compare(worth(cover), worth(best)) > 0;
                    best = better ? cover : best;
                }
            }
            List<Match> without = behind.get(p + 1);
            boolean keep = best != null && Arrays.compare(worth(best), worth(without)) >= 0;
            behind.set(p, keep ? best : without);
        }
        return behind.get(0);
    }

    List<Match> longest() {
        List<Match> taken = new ArrayList<>();
        List<Match> all = matches();
        for (int p = 0; p < stream.length(); p++) {
            Match longest = null;
            for (Match m : all) {
                longest = m.start == p && (longest == null || m.length > longest.length) ? m : longest;
            }
            if (longest != null) {
                taken.add(longest);
                p = longest.end();
            }
        }
        return taken;
    }
}
