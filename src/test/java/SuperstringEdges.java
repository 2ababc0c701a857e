/** Boundary cases of the common superstring: promises 41 to 43. */
final class SuperstringEdges extends Edges {
    private SuperstringEdges() {
    }

    static void run() {
        everyKeyword();
        list();
        overlap();
        order();
        joining();
        ends();
        keptBytes();
        lengths();
        bytes();
        starts();
        afterChanges();
    }

    private static void dueText(Run m, String want) {
        due("superstringLength of " + want, m.superstringLength(), want.length());
        dueAll("superstringByte of " + want, 0, want.length() - 1, m::superstringByte, want::charAt);
        due("behind " + want, m.superstringByte(want.length()), NONE);
    }

    /** Forty keywords of sixteen bytes that have nothing in common. */
    private static Run longest() {
        Run m = new Run();
        for (int k = 0; k < 40; k++) {
            due("add", Check.add(m, ("" + (char) (33 + k)).repeat(16), 1), k);
        }
        return m;
    }

    private static void everyKeyword() {
        says("D6", "The superstring is a byte sequence in which every live keyword occurs");
        String[] live = {"abcd", "cde", "bc", "x", "dex", "q"};
        Run m = with(live);
        String text = Check.superstring(m);
        due("none is missing", count(0, 5, k -> text.contains(live[k])), 6);
        Run all = crowd(40);
        String joined = Check.superstring(all);
        due("none of forty is missing", count(0, 39, k -> joined.contains(pair(k))), 40);

        says("D6", "It is built greedily");
        dueText(with("cabab", "baba", "ababc"), "cababcbaba");
    }

    private static void list() {
        says("D6", "Start with a list of the live keywords in the order of their numbers, without those that occur");
        dueText(with("ab", "cd", "ef"), "abcdef");
        dueText(with("ef", "cd", "ab"), "efcdab");
        dueText(with("abc", "ab"), "abc");
        dueText(with("bc", "abc"), "abc");
        dueText(with("b", "abc"), "abc");
        dueText(with("abc", "ab", "b"), "abc");
        dueText(with("abc", "ac"), "abcac");
        // "pq" ends the first keyword and begins the second one, but occurs in neither.
        dueText(with(SIXTEEN, "qz", "pq", "mnopX"), SIXTEEN + "Xpqz");
        dueText(with("p", SIXTEEN, "a", SIXTEEN.substring(1), SIXTEEN.substring(0, 15)), SIXTEEN);
        Run m = with("abc", "b", "q");
        dueText(m, "abcq");
        due("remove", m.removeKeyword(0), 2);
        dueText(m, "bq");
        due("add", Check.add(m, "abc", 1), 3);
        dueText(m, "qabc");
    }

    private static void overlap() {
        says("D6", "The overlap of two different elements x and y of the list is the largest number n from 0 to 15");
        dueText(with("ab", "xy"), "abxy");
        dueText(with("ab", "bc"), "abc");
        dueText(with(SIXTEEN, SIXTEEN.substring(1) + "q"), SIXTEEN + "q");
        dueText(with("x" + "a".repeat(15), "a".repeat(15) + "y"), "x" + "a".repeat(15) + "y");
        dueText(with("xaa", "aay"), "xaay");
        dueText(with("xaba", "abay"), "xabay");
        dueText(with("aba"), "aba");
        dueText(with("aba", "cc"), "abacc");
    }

    private static void order() {
        says("D6", "As long as the list has at least two elements, choose the ordered pair x, y with the largest");
        dueText(with("xab", "bq", "abz"), "xabzbq");
        dueText(with("ab", "bcd", "zbc"), "abzbcd");
        dueText(with("bc", "ab"), "abc");
        says("D6", "among equal overlaps, the pair whose x stands first in the list, then the pair whose y stands first");
        dueText(with("ab", "ba"), "aba");
        dueText(with("ba", "ab"), "bab");
        dueText(with("xa", "ya", "az"), "xazya");
        dueText(with("xa", "ay", "az"), "xayaz");
        dueText(with("xa", "az", "ay"), "xazay");
        dueText(with("q", "r", "s"), "qrs");
    }

    private static void joining() {
        says("D6", "Append to x the bytes of y without its first n bytes, where n is the overlap, and remove y");
        dueText(with("xab", "abz"), "xabz");
        dueText(with("az", "q", "xa"), "qxaz");
        dueText(with("cd", "ab", "bc"), "abcd");
        // What was appended to another element takes part no more, neither as x nor as y.
        dueText(with("bcd", "abc", "dx"), "abcdx");
        dueText(with("xab", "yab", "abz", "zy"), "xabzyab");
        StringBuilder text = new StringBuilder();
        for (int i = 0; i < 55; i++) {
            text.append((char) (33 + i));
        }
        Run m = new Run();
        for (int k = 39; k >= 0; k--) {
            due("add", Check.add(m, text.substring(k, k + 16), 1), 39 - k);
        }
        dueText(m, text.toString());
    }

    private static void ends() {
        says("D6", "The last element is the superstring");
        dueText(with("a"), "a");
        dueText(with("a", "b"), "ab");
        says("D6", "it is empty if no keyword is live");
        dueText(new Run(), "");
        Run m = with("a");
        dueText(m, "a");
        due("remove", m.removeKeyword(0), 0);
        dueText(m, "");
    }

    private static void keptBytes() {
        says("D6", "Bytes are compared with folding, if it is on, but are kept as they were added");
        dueText(folded(true, "xAb", "aBy"), "xAby");
        dueText(folded(false, "xAb", "aBy"), "xAbaBy");
        dueText(folded(true, "xaB", "Ab"), "xaB");
        dueText(folded(false, "xaB", "Ab"), "xaBAb");
        dueText(folded(true, "Zz", "zA", "ab"), "ZzAb");
        dueText(folded(false, "Zz", "zA", "ab"), "ZzAab");
        dueText(folded(true, "x@", "`y", "z[", "{w"), "x@`yz[{w");
    }

    private static void lengths() {
        says("P41", "Returns the length of the superstring", "Returns the number of bytes");
        due("none", new Run().superstringLength(), 0);
        due("one byte", with("~").superstringLength(), 1);
        due("sixteen bytes", with(SIXTEEN).superstringLength(), 16);
        Run m = longest();
        due("the longest", m.superstringLength(), 640);
        due("remove", m.removeKeyword(0), 39);
        due("one less", m.superstringLength(), 624);
        due("the stream does not matter", scanned("abcab", "ab").superstringLength(), 2);
    }

    private static void bytes() {
        says("P42", "Returns a byte of the superstring", "Returns the byte;", "`index`: index of the byte, from 0");
        Run m = longest();
        for (int k = 0; k < 40; k++) {
            due("first byte of " + k, m.superstringByte(16 * k), 33 + k);
            due("last byte of " + k, m.superstringByte(16 * k + 15), 33 + k);
        }
        due("the highest byte", with("~").superstringByte(0), 126);
        says("P42", "NONE if the index is not below the length");
        dueAll("behind 640", 639, 660, m::superstringByte, i -> i < 640 ? 33 + 39 : NONE);
        dueAbove("far behind", m::superstringByte, NONE);
        due("behind one", with("a").superstringByte(1), NONE);
        due("an empty one", new Run().superstringByte(0), NONE);
        dueAbove("far behind an empty one", new Run()::superstringByte, NONE);
        says("P42", "BAD_VALUE if the index is negative");
        dueBelow("of the longest", m::superstringByte, BAD_VALUE);
        dueBelow("of an empty one", new Run()::superstringByte, BAD_VALUE);
    }

    private static void starts() {
        says("P43", "Returns the index of the first occurrence of a live keyword in the superstring",
                "Returns the index of its first byte");
        Run m = with("xaya", "a", "ya", "q");
        int[] want = {0, 1, 2, 4};
        dueAll("superstringStart", 0, 3, m::superstringStart, k -> want[k]);
        due("before the others", with("ab", "xa").superstringStart(1), 0);
        due("behind it", with("ab", "xa").superstringStart(0), 1);
        Run all = longest();
        dueAll("superstringStart", 0, 39, all::superstringStart, k -> 16 * k);

        says("P43", "NO_SUCH if the keyword is not live", "`keyword`: number of a keyword");
        dueNoSuch("superstringStart", 4, m::superstringStart);
        due("no keywords", new Run().superstringStart(0), NO_SUCH);
        due("remove", m.removeKeyword(1), 3);
        due("a removed one", m.superstringStart(1), NO_SUCH);
        due("a live one", m.superstringStart(2), 2);
    }

    /** Whichever of the three methods is called first after a change sees the new superstring. */
    private static void afterChanges() {
        Run m = with("ab", "cd");
        dueText(m, "abcd");
        due("remove", m.removeKeyword(0), 1);
        due("a start first", m.superstringStart(1), 0);
        due("add", Check.add(m, "dx", 1), 2);
        due("a byte first", m.superstringByte(2), 'x');
        due("add", Check.add(m, "q", 1), 3);
        due("the length first", m.superstringLength(), 4);
        due("remove", m.removeKeyword(1), 2);
        due("a byte first", m.superstringByte(2), 'q');
        due("remove", m.removeKeyword(2), 1);
        due("the length first", m.superstringLength(), 1);
        due("remove", m.removeKeyword(3), 0);
        due("a byte first", m.superstringByte(0), NONE);
        due("folding", m.setFolding(true), 0);
        due("add", Check.add(m, "xA", 1), 4);
        due("add", Check.add(m, "ay", 1), 5);
        dueText(m, "xAy");
    }
}
