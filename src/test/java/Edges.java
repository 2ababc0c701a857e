import java.util.function.IntPredicate;
import java.util.function.IntUnaryOperator;

/** What the tests of the boundary cases share. A test first says which sentence of the document it is about. */
abstract class Edges {
    static final int NONE = -1;
    static final int NO_SUCH = -2;
    static final int BAD_VALUE = -3;
    static final int BAD_TEXT = -4;
    static final int DUPLICATE = -5;
    static final int FULL = -6;
    static final int BUSY = -7;
    static final int LOWEST = Integer.MIN_VALUE;
    static final int HIGHEST = Integer.MAX_VALUE;
    static final String SIXTEEN = "abcdefghijklmnop";
    /** Values far outside of every range, and those where a sum or a shift would wrap around. */
    static final int[] FAR_NEGATIVE = {LOWEST, LOWEST + 1, -65536, -256, -2};
    static final int[] FAR_ABOVE = {65536, 1 << 30, HIGHEST - 1, HIGHEST};

    private static String sentence = "";

    static void says(String section, String... sentences) {
        sentence = section + " \"" + sentences[0] + "\"";
        for (String words : sentences) {
            Document.says(section, words);
        }
    }

    static void due(String call, long got, long want) {
        Check.due(sentence + ": " + call, got, want);
    }

    /** Holds the answers for all values from low to high against the wanted ones. */
    static void dueAll(String call, int low, int high, IntUnaryOperator got, IntUnaryOperator want) {
        for (int value = low; value <= high; value++) {
            due(call + " " + value, got.applyAsInt(value), want.applyAsInt(value));
        }
    }

    static void dueBelow(String call, IntUnaryOperator got, int want) {
        for (int value : FAR_NEGATIVE) {
            due(call + " " + value, got.applyAsInt(value), want);
        }
        due(call + " -1", got.applyAsInt(-1), want);
    }

    static void dueAbove(String call, IntUnaryOperator got, int want) {
        for (int value : FAR_ABOVE) {
            due(call + " " + value, got.applyAsInt(value), want);
        }
    }

    /** A keyword's number is refused below 0 and from the first one on that has not been given out. */
    static void dueNoSuch(String call, int given, IntUnaryOperator got) {
        dueBelow(call, got, NO_SUCH);
        due(call + " " + given, got.applyAsInt(given), NO_SUCH);
        due(call + " 120", got.applyAsInt(120), NO_SUCH);
        dueAbove(call, got, NO_SUCH);
    }

    static Run with(String... texts) {
        return Check.with(texts);
    }

    /** A matcher with these keywords and, behind them, this stream. */
    static Run scanned(String stream, String... texts) {
        Run m = Check.with(texts);
        scanAll(m, stream);
        return m;
    }

    static Run folded(boolean on, String... texts) {
        Run m = new Run();
        due("setFolding", m.setFolding(on), 0);
        for (int i = 0; i < texts.length; i++) {
            due("add " + texts[i], Check.add(m, texts[i], i + 1), i);
        }
        return m;
    }

    /** Scans a text of any length. */
    static int scanAll(Run m, String text) {
        int sum = 0;
        for (int from = 0; from < text.length(); from += 200) {
            sum += Check.scan(m, text.substring(from, Math.min(from + 200, text.length())));
        }
        return sum;
    }

    static void fill(Run m, int length) {
        Check.feed(m, "k".repeat(length));
    }

    /** A text of two bytes that differs for all numbers below 120. */
    static String pair(int number) {
        return "" + (char) ('0' + number / 10) + (char) ('A' + number % 10);
    }

    /** A matcher with so many live keywords of two bytes, numbered from 0. */
    static Run crowd(int size) {
        Run m = new Run();
        for (int i = 0; i < size; i++) {
            due("add", Check.add(m, pair(i), 1 + i % 99), i);
        }
        return m;
    }

    /** A matcher that has given out so many numbers, the last ones of which are live. */
    static Run given(int numbers, int live) {
        Run m = new Run();
        for (int i = 0; i < numbers; i++) {
            if (live > 0 && i >= live) {
                due("remove", m.removeKeyword(i - live), live - 1);
            }
            due("add", Check.add(m, pair(i), 1), i);
            if (live == 0) {
                due("remove", m.removeKeyword(i), 0);
            }
        }
        return m;
    }

    static int count(int low, int high, IntPredicate test) {
        int count = 0;
        for (int value = low; value <= high; value++) {
            count += test.test(value) ? 1 : 0;
        }
        return count;
    }
}
