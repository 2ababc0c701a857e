/** What the tests share: comparing answers, and filling the text buffer from a string. */
final class Check {
    private static final int MOST_PRINTED = 60;

    private static int compared = 0;
    private static int wrong = 0;

    private Check() {
    }

    static void due(String call, long got, long want) {
        compared++;
        if (got != want) {
            wrong++;
            if (wrong <= MOST_PRINTED) {
                System.out.println(call + " answered " + got + ", due is " + want);
            }
        }
    }

    static void finish(String test) {
        System.out.println(test + ": " + compared + " answers compared, " + wrong + " wrong");
        if (wrong != 0 || compared == 0) {
            System.exit(1);
        }
    }

    static boolean allRight() {
        return wrong == 0;
    }

    /** Four characters of the text as an int, the first one on top; zeros behind the end. */
    static int four(String text, int from) {
        int word = 0;
        for (int i = from; i < from + 4; i++) {
            word = word << 8 | (i < text.length() ? text.charAt(i) : 0);
        }
        return word;
    }

    /** Appends 20 bytes of the text from an index on to the buffer. */
    static int append(Run m, String text, int from) {
        return m.appendBytes(four(text, from), four(text, from + 4), four(text, from + 8), four(text, from + 12),
                four(text, from + 16));
    }

    /** Appends the text to the buffer, in blocks of 20 bytes; answers what the last append answered, or 0. */
    static int feed(Run m, String text) {
        int answer = 0;
        for (int i = 0; i < text.length(); i += 20) {
            answer = append(m, text, i);
        }
        return answer;
    }

    static int add(Run m, String text, int weight) {
        feed(m, text);
        return m.addKeyword(text.length(), weight);
    }

    static int find(Run m, String text) {
        feed(m, text);
        return m.findKeyword(text.length());
    }

    static int scan(Run m, String text) {
        feed(m, text);
        return m.scan(text.length());
    }

    /** A matcher with these keywords; the weights are 1, 2, 3 and so on. */
    static Run with(String... texts) {
        Run m = new Run();
        for (int i = 0; i < texts.length; i++) {
            due("addKeyword of " + texts[i], add(m, texts[i], i + 1), i);
        }
        return m;
    }

    static String superstring(Run m) {
        StringBuilder text = new StringBuilder();
        int length = m.superstringLength();
        for (int i = 0; i < length; i++) {
            text.append((char) m.superstringByte(i));
        }
        return text.toString();
    }
}
