/** What the tests share: comparing answers, and filling the text buffer from a string. */
final class Check {
    private static int compared = 0;
    private static int wrong = 0;

    private Check() {
    }

    static void due(String call, long got, long want) {
        compared++;
        if (got != want) {
            wrong++;
            System.out.println(call + " answered " + got + ", due is " + want);
        }
    }

    static void finish(String test) {
        System.out.println(test + ": " + compared + " answers compared, " + wrong + " wrong");
        if (wrong != 0 || compared == 0) {
            System.exit(1);
        }
    }

    static boolean allRight() {
        return wrong == 0;
    }

    /** Four characters of the text as an int, the first one on top; zeros behind the end. */
    static int four(String text, int from) {
        int word = 0;
        for (int i = from; i < from + 4; i++) {
            word = word << 8 | (i < text.length() ? text.charAt(i) : 0);
        }
        return word;
    }

    /** Appends the text to the buffer, in blocks of 20 bytes; answers what the last append answered. */
    static int feed(KeywordMatcher m, String text) {
        int answer = m.bufferLength();
        for (int i = 0; i < text.length(); i += 20) {
            answer = m.appendBytes(four(text, i), four(text, i + 4), four(text, i + 8), four(text, i + 12),
                    four(text, i + 16));
        }
        return answer;
    }

    static int add(KeywordMatcher m, String text, int weight) {
        feed(m, text);
        return m.addKeyword(text.length(), weight);
    }

    static int find(KeywordMatcher m, String text) {
        feed(m, text);
        return m.findKeyword(text.length());
    }

    static int scan(KeywordMatcher m, String text) {
        feed(m, text);
        return m.scan(text.length());
    }

    static KeywordMatcher with(String... texts) {
        KeywordMatcher m = new KeywordMatcher();
        for (int i = 0; i < texts.length; i++) {
            due("addKeyword of " + texts[i], add(m, texts[i], i + 1), i);
        }
        return m;
    }

    static String superstring(KeywordMatcher m) {
        StringBuilder text = new StringBuilder();
        for (int i = 0; i < m.superstringLength(); i++) {
            text.append((char) m.superstringByte(i));
        }
        return text.toString();
    }
}
