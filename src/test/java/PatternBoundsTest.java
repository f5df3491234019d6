/** Promises 8 and 9 and the terms of patterns: a test for each sentence that names a boundary case. */
public final class PatternBoundsTest {
    private static final int A = 1;
    private static final int B = 2;
    private static final int ANY_LETTER = 15;

    public static void main(String[] args) {
        Check.sentence("Terms: PATTERNS 0 .. 7", PatternBoundsTest::eightPatterns);
        Check.sentence("Terms: rows of at most 6 ITEMS", PatternBoundsTest::sixItems);
        Check.sentence("Terms: a set of letters (bits 1, 2, 4, 8 for a .. d)", PatternBoundsTest::setsOfLetters);
        Check.sentence("Terms: 0 once", PatternBoundsTest::once);
        Check.sentence("Terms: 1 once or not", PatternBoundsTest::onceOrNot);
        Check.sentence("Terms: 2 any times", PatternBoundsTest::anyTimes);
        Check.sentence("Terms: 3 once or more", PatternBoundsTest::onceOrMore);
        Check.sentence("Terms: some letters of it side by side", PatternBoundsTest::sideBySide);
        Check.sentence("Terms: (perhaps none)", PatternBoundsTest::perhapsNone);
        Check.sentence("Terms: those at its beginning", PatternBoundsTest::atTheBeginning);
        Check.sentence("Terms: or end if it is bound to that", PatternBoundsTest::atTheEnd);
        Check.sentence("8: how many it has", PatternBoundsTest::itemCounts);
        Check.sentence("8: there is no such pattern", PatternBoundsTest::itemOfNoPattern);
        Check.sentence("8: letters is not 0 .. 15", PatternBoundsTest::itemOfNoLetters);
        Check.sentence("8: or often not 0 .. 3", PatternBoundsTest::itemOfNoOften);
        Check.sentence("8: IllegalStateException: it has 6", PatternBoundsTest::itemWhenFull);
        Check.sentence("9: To what pattern p is bound", PatternBoundsTest::boundAnew);
        Check.sentence("9: IllegalArgumentException: there is no such pattern", PatternBoundsTest::bindOfNoPattern);
        Check.end();
    }

    /** Whether a text matches pattern p, as schema 0 with nothing but that pattern says. */
    private static void matches(Calls c, int p, String letters, boolean due) {
        int v = c.letters(letters);
        c.rule(0, 10, p);
        c.due(due).judge(0, v);
        if (!due) {
            c.allFaults(Calls.code(v, 0, 10));
        }
    }

    /** A pattern 0 of items in pairs of letters and how often, and a schema 0. */
    private static Calls pattern(boolean beginning, boolean end, int... items) {
        Calls c = new Calls();
        c.schema();
        for (int i = 0; i < items.length; i += 2) {
            c.due(i / 2 + 1).item(0, items[i], items[i + 1]);
        }
        c.due(Calls.TAKEN).bind(0, beginning, end);
        return c;
    }

    private static void eightPatterns() {
        Calls c = new Calls();
        c.schema();
        String[] only = {"a", "b", "c", "d"};
        for (int p = 0; p < 8; p++) {
            c.due(1).item(p, 1 << p % 4, 0);
            c.due(Calls.TAKEN).bind(p, p < 4, p >= 4);
            c.due(Calls.TAKEN).rule(0, 10, p);
        }
        for (int p = 0; p < 8; p++) {
            String letter = only[p % 4];
            String other = only[(p + 1) % 4];
            matches(c, p, letter + other, p < 4);
            matches(c, p, other + letter, p >= 4);
        }
        for (int p : new int[] {-2, 8, 9, Integer.MIN_VALUE, Integer.MAX_VALUE}) {
            c.due(Calls.ARGUMENT).item(p, 1, 0);
            c.due(Calls.ARGUMENT).bind(p, true, true);
            c.due(Calls.ARGUMENT).rule(0, 10, p);
        }
    }

    /** Each of the six items counts: a text without one of the letters does not match. */
    private static void sixItems() {
        Calls c = pattern(true, true, 1, 0, 2, 0, 4, 0, 8, 0, 1, 0, 2, 0);
        c.due(Calls.STATE).item(0, 4, 0);
        String all = "abcdab";
        matches(c, 0, all, true);
        for (int i = 0; i < 6; i++) {
            matches(c, 0, all.substring(0, i) + all.substring(i + 1), false);
        }
        matches(c, 0, all + "c", false);
    }

    private static void setsOfLetters() {
        String[] letters = {"a", "b", "c", "d"};
        for (int set = 0; set <= 15; set++) {
            Calls c = pattern(true, true, set, 0);
            for (int i = 0; i < 4; i++) {
                matches(c, 0, letters[i], (set >> i & 1) != 0);
            }
        }
    }

    private static void once() {
        Calls c = pattern(true, true, A, 0);
        matches(c, 0, "", false);
        matches(c, 0, "a", true);
        matches(c, 0, "aa", false);
        matches(c, 0, "b", false);
    }

    private static void onceOrNot() {
        Calls c = pattern(true, true, A, 1);
        matches(c, 0, "", true);
        matches(c, 0, "a", true);
        matches(c, 0, "aa", false);
        matches(c, 0, "b", false);
        Calls none = pattern(true, true, 0, 1);
        matches(none, 0, "", true);
        matches(none, 0, "a", false);
    }

    private static void anyTimes() {
        Calls c = pattern(true, true, A, 2);
        for (int length = 0; length <= 8; length++) {
            matches(c, 0, "aaaaaaaa".substring(0, length), true);
        }
        matches(c, 0, "aaaaaaab", false);
        matches(c, 0, "baaaaaaa", false);
        matches(c, 0, "aaabaaaa", false);
        Calls none = pattern(true, true, 0, 2);
        matches(none, 0, "", true);
        matches(none, 0, "a", false);
    }

    private static void onceOrMore() {
        Calls c = pattern(true, true, A, 3);
        for (int length = 0; length <= 8; length++) {
            matches(c, 0, "aaaaaaaa".substring(0, length), length > 0);
        }
        matches(c, 0, "aaaaaaab", false);
        matches(c, 0, "baaaaaaa", false);
        Calls none = pattern(false, false, 0, 3);
        matches(none, 0, "", false);
        matches(none, 0, "a", false);
    }

    /** The letters may stand at the beginning, in the middle and at the end, but with none between them. */
    private static void sideBySide() {
        Calls c = pattern(false, false, A, 0, B, 0);
        matches(c, 0, "abcccccc", true);
        matches(c, 0, "cccabccc", true);
        matches(c, 0, "ccccccab", true);
        matches(c, 0, "aab", true);
        matches(c, 0, "acb", false);
        matches(c, 0, "ba", false);
        matches(c, 0, "a", false);
        matches(c, 0, "", false);
    }

    /** A pattern that asks for no letter matches every text, and bound to both ends only the one without letters. */
    private static void perhapsNone() {
        int[][] patterns = {{}, {A, 1}, {A, 2}, {0, 1}, {0, 2}, {A, 1, B, 2, 0, 1, 0, 2, A, 2, B, 1}};
        for (int[] items : patterns) {
            for (int bound = 0; bound < 4; bound++) {
                Calls c = pattern((bound & 1) != 0, (bound & 2) != 0, items);
                matches(c, 0, "", true);
                matches(c, 0, "c", bound != 3);
                matches(c, 0, "dddddddd", bound != 3);
            }
        }
    }

    private static void atTheBeginning() {
        Calls c = pattern(true, false, A, 0, B, 0);
        matches(c, 0, "ab", true);
        matches(c, 0, "abdddddd", true);
        matches(c, 0, "dab", false);
        matches(c, 0, "ddddddab", false);
        matches(c, 0, "", false);
    }

    private static void atTheEnd() {
        Calls c = pattern(false, true, A, 0, B, 0);
        matches(c, 0, "ab", true);
        matches(c, 0, "ddddddab", true);
        matches(c, 0, "abd", false);
        matches(c, 0, "abdddddd", false);
        matches(c, 0, "", false);
        Calls both = pattern(true, true, A, 0, B, 0);
        matches(both, 0, "ab", true);
        matches(both, 0, "abab", false);
        matches(both, 0, "abd", false);
        matches(both, 0, "dab", false);
    }

    private static void itemCounts() {
        Calls c = new Calls();
        for (int n = 1; n <= 6; n++) {
            for (int p = 0; p < 8; p++) {
                c.due(n).item(p, n, n % 4);
            }
        }
    }

    private static void itemOfNoPattern() {
        Calls c = new Calls();
        for (int p : new int[] {-1, 8, 9, 16, Integer.MIN_VALUE, Integer.MAX_VALUE}) {
            c.due(Calls.ARGUMENT).item(p, 0, 0);
            c.due(Calls.ARGUMENT).item(p, ANY_LETTER, 3);
        }
        c.due(1).item(0, 1, 0);
        c.due(1).item(7, 1, 0);
    }

    private static void itemOfNoLetters() {
        Calls c = new Calls();
        for (int letters : new int[] {-1, 16, 17, 31, 32, Integer.MIN_VALUE, Integer.MAX_VALUE}) {
            c.due(Calls.ARGUMENT).item(3, letters, 0);
        }
        c.due(1).item(3, 0, 0);
        c.due(2).item(3, 15, 0);
    }

    private static void itemOfNoOften() {
        Calls c = new Calls();
        for (int often : new int[] {-1, 4, 5, Integer.MIN_VALUE, Integer.MAX_VALUE}) {
            c.due(Calls.ARGUMENT).item(3, 1, often);
        }
        c.due(1).item(3, 1, 0);
        c.due(2).item(3, 1, 3);
    }

    private static void itemWhenFull() {
        Calls c = new Calls();
        for (int n = 1; n <= 6; n++) {
            c.due(n).item(2, 1, 0);
        }
        c.due(Calls.STATE).item(2, 1, 0);
        c.due(Calls.STATE).item(2, 0, 3);
        c.due(Calls.ARGUMENT).item(2, 16, 0);
        c.due(Calls.ARGUMENT).item(2, 1, 4);
        c.due(1).item(1, 1, 0);
        c.due(1).item(3, 1, 0);
    }

    /** A later call says it anew, for both ends, and for that pattern alone. */
    private static void boundAnew() {
        Calls c = pattern(true, true, A, 0);
        c.item(1, A, 0);
        int before = c.letters("ba");
        int behind = c.letters("ab");
        c.rule(0, 10, 0);
        for (int turn = 0; turn < 3; turn++) {
            for (int bound = 0; bound < 4; bound++) {
                c.bind(0, (bound & 1) != 0, (bound & 2) != 0);
                c.due((bound & 1) == 0).judge(0, before);
                c.due((bound & 2) == 0).judge(0, behind);
            }
        }
        c.rule(0, 10, 1);
        c.due(true).judge(0, before);
        c.due(true).judge(0, behind);
    }

    private static void bindOfNoPattern() {
        Calls c = new Calls();
        for (int p : new int[] {-1, 8, 9, 16, Integer.MIN_VALUE, Integer.MAX_VALUE}) {
            c.due(Calls.ARGUMENT).bind(p, true, true);
            c.due(Calls.ARGUMENT).bind(p, false, false);
        }
        c.due(Calls.TAKEN).bind(0, true, true);
        c.due(Calls.TAKEN).bind(7, false, false);
    }
}
