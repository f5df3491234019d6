/** Promises 8 and 9, and which texts match a pattern. */
public final class PatternsTest {
    private static final int ONCE = 0;
    private static final int ONCE_OR_NOT = 1;
    private static final int ANY_TIMES = 2;
    private static final int ONCE_OR_MORE = 3;

    public static void main(String[] args) {
        item();
        bind();
        noItems();
        oneItem();
        ways();
        noLetters();
        eightLetters();
        patternsChangeLater();
        Check.end();
    }

    private static void item() {
        SchemaJudge x = new SchemaJudge();
        for (int p = 0; p < 8; p += 7) {
            for (int n = 1; n <= 6; n++) {
                Check.due("item " + n + " of pattern " + p, x.item(p, 15, n % 4), n);
            }
            int full = p;
            Check.state("item: a seventh one", () -> x.item(full, 1, 0));
            Check.argument("item: full, but no letters", () -> x.item(full, 16, 0));
            Check.argument("item: full, but not so often", () -> x.item(full, 1, 4));
        }
        for (int p : new int[] {-1, 8, Integer.MIN_VALUE, Integer.MAX_VALUE}) {
            Check.argument("item: pattern " + p, () -> x.item(p, 1, 0));
        }
        for (int letters : new int[] {-1, 16, Integer.MIN_VALUE, Integer.MAX_VALUE}) {
            Check.argument("item: letters " + letters, () -> x.item(1, letters, 0));
        }
        for (int often : new int[] {-1, 4, Integer.MIN_VALUE, Integer.MAX_VALUE}) {
            Check.argument("item: often " + often, () -> x.item(1, 1, often));
        }
        Check.due("item: none after refusals", x.item(1, 0, 3), 1);
    }

    private static void bind() {
        SchemaJudge x = new SchemaJudge();
        for (int p : new int[] {-1, 8, Integer.MIN_VALUE, Integer.MAX_VALUE}) {
            Check.argument("bind: pattern " + p, () -> {
                x.bind(p, true, true);
                return "nothing";
            });
        }
        x.schema();
        x.rule(0, 10, 7);
        x.item(7, 1, ONCE);
        int[] texts = {text("a"), text("ab"), text("ba"), text("bab"), text("b"), text("")};
        for (int t : texts) {
            x.text(t);
        }
        boolean[][] due = {
            {true, true, true, true, false, false},
            {true, true, false, false, false, false},
            {true, false, true, false, false, false},
            {true, false, false, false, false, false},
        };
        for (int bound : new int[] {0, 1, 2, 3, 0, 2, 1, 0}) {
            x.bind(7, (bound & 1) != 0, (bound & 2) != 0);
            for (int v = 0; v < texts.length; v++) {
                Check.due("bound " + bound + ", text " + v, x.judge(0, v), due[bound][v]);
            }
        }
    }

    private static void noItems() {
        for (int bound = 0; bound < 4; bound++) {
            Check.due("no items, no letters", matches("", bound, ""), true);
            Check.due("no items, bound " + bound, matches("", bound, "ab"), bound != 3);
        }
    }

    private static void oneItem() {
        String[] texts = {"", "a", "b", "aa", "ab", "aaa", "aba"};
        boolean[][] due = {
            {false, true, false, false, false, false, false},
            {true, true, false, false, false, false, false},
            {true, true, false, true, false, true, false},
            {false, true, false, true, false, true, false},
        };
        for (int often = 0; often < 4; often++) {
            for (int i = 0; i < texts.length; i++) {
                Check.due("a, often " + often + ", of " + texts[i], matches("a" + often, 3, texts[i]), due[often][i]);
            }
        }
        for (int letter = 0; letter < 4; letter++) {
            for (int other = 0; other < 4; other++) {
                String of = String.valueOf((char) ('a' + letter));
                String in = String.valueOf((char) ('a' + other));
                Check.due("letter " + of + " in " + in, matches(of + ONCE, 3, in), letter == other);
            }
        }
    }

    private static void ways() {
        Check.due("any times leaves one", matches("a2 a0", 3, "aaa"), true);
        Check.due("once or not leaves one", matches("a1 a0", 3, "a"), true);
        Check.due("once or more leaves one", matches("a3 a0", 3, "aa"), true);
        Check.due("once or more leaves none", matches("a3 a0", 3, "a"), false);
        Check.due("order of items", matches("a0 b0", 0, "ba"), false);
        Check.due("side by side", matches("a0 b0", 0, "acb"), false);
        Check.due("in the middle", matches("a0 b0", 0, "cabc"), true);
        Check.due("in the middle, bound to the beginning", matches("a0 b0", 1, "cabc"), false);
        Check.due("in the middle, bound to the end", matches("a0 b0", 2, "cabc"), false);
        Check.due("sets of letters", matches("ab3 cd3", 3, "abbadc"), true);
        Check.due("sets of letters, not so", matches("ab3 cd3", 3, "abcda"), false);
        Check.due("a later beginning", matches("a0 b2 c0", 0, "aabbc"), true);
        Check.due("none at the end", matches("a1", 2, "bb"), true);
        Check.due("none at the beginning", matches("a2", 1, "bb"), true);
        Check.due("six items", matches("a0 b1 c2 d3 a1 b0", 3, "accdddb"), true);
        Check.due("six items, not so", matches("a0 b1 c2 d3 a1 b0", 3, "abbdab"), false);
    }

    private static void noLetters() {
        Check.due("no letter once", matches("0", 0, "abc"), false);
        Check.due("no letter once, no text", matches("0", 0, ""), false);
        Check.due("no letter once or not", matches("1", 3, ""), true);
        Check.due("no letter once or not, bound", matches("1", 3, "a"), false);
        Check.due("no letter any times", matches("2", 0, "a"), true);
        Check.due("no letter once or more", matches("3", 0, "a"), false);
        Check.due("no letter between others", matches("a0 2 b0", 3, "ab"), true);
    }

    private static void eightLetters() {
        Check.due("eight letters any times", matches("abcd2", 3, "abcdabcd"), true);
        Check.due("eight letters once or more", matches("a3", 3, "aaaaaaaa"), true);
        Check.due("eight letters, the last one not", matches("a3", 3, "aaaaaaab"), false);
        Check.due("eight letters, the last one", matches("b0", 2, "aaaaaaab"), true);
        Check.due("eight letters, the first one", matches("b0", 1, "baaaaaaa"), true);
    }

    private static void patternsChangeLater() {
        SchemaJudge x = new SchemaJudge();
        x.text(text("ab"));
        x.schema();
        x.rule(0, 10, 3);
        Check.due("pattern without items", x.judge(0, 0), true);
        x.item(3, 4, ONCE);
        Check.due("pattern with an item", x.judge(0, 0), false);
        Check.due("the pattern's fault", x.fault(0), 10);
        x.rule(0, 10, 2);
        Check.due("another pattern", x.judge(0, 0), true);
    }

    /** Items as letters and how often, parted by blanks; bound: 1 to the beginning, 2 to the end. */
    private static boolean matches(String items, int bound, String letters) {
        SchemaJudge x = new SchemaJudge();
        for (String item : items.isEmpty() ? new String[0] : items.split(" ")) {
            int set = 0;
            for (int i = 0; i < item.length() - 1; i++) {
                set |= 1 << (item.charAt(i) - 'a');
            }
            x.item(5, set, item.charAt(item.length() - 1) - '0');
        }
        x.bind(5, (bound & 1) != 0, (bound & 2) != 0);
        x.text(text(letters));
        x.schema();
        x.rule(0, 10, 5);
        return x.judge(0, 0);
    }

    private static int text(String letters) {
        int t = 0;
        for (int i = letters.length() - 1; i >= 0; i--) {
            t = 5 * t + letters.charAt(i) - 'a' + 1;
        }
        return t;
    }
}
