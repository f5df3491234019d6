/** Promises 10 to 13 and the terms of schemas: a test for each sentence that names a boundary case. */
public final class SchemaBoundsTest {
    /** In every world here: a schema of which all values are valid, one of which none is, and one to be filled. */
    private static final int YES = 0;
    private static final int NO = 1;
    private static final int S = 2;
    /** The values: one of each kind (the row of two elements, the members with name 0), 2, 0, -0.001, an empty row. */
    private static final int ONE = 2;
    private static final int LETTER = 3;
    private static final int PAIR = 4;
    private static final int MEMBER = 5;
    private static final int TWO = 6;
    private static final int ZERO = 7;
    private static final int BELOW_ZERO = 8;
    private static final int EMPTY = 9;
    private static final int VALUES = 10;

    public static void main(String[] args) {
        schema();
        rule();
        takes();
        list();
        named();
        Check.end();
    }

    private static void schema() {
        Check.sentence("Terms: SCHEMAS are numbered 0, 1, .., at most 24", SchemaBoundsTest::twentyFourSchemas);
        Check.sentence("10: A new schema without keywords", SchemaBoundsTest::withoutKeywords);
        Check.sentence("10: IllegalStateException: there are 24", SchemaBoundsTest::schemaWhenFull);
    }

    private static void rule() {
        Check.sentence("11: Keyword 0 .. 28 of schema s says x", SchemaBoundsTest::ruleKeywords);
        Check.sentence("11: -1: it is taken away", SchemaBoundsTest::ruleTakenAway);
        Check.sentence("11: there is no such schema", SchemaBoundsTest::ruleOfNoSchema);
        Check.sentence("11: or keyword", SchemaBoundsTest::ruleOfNoKeyword);
        Check.sentence("11: or x is neither -1 nor what it takes", SchemaBoundsTest::refusedRuleChangesNothing);
    }

    private static void takes() {
        Check.sentence("11: 0: 0 .. 127", () -> range(0, 127));
        Check.sentence("11: 1 a value", SchemaBoundsTest::takesAValue);
        Check.sentence("11: 2 a row", SchemaBoundsTest::takesARow);
        Check.sentence("11: 3 to 6 a number", SchemaBoundsTest::takesANumber);
        Check.sentence("11: 7 one above 0", SchemaBoundsTest::takesOneAboveZero);
        Check.sentence("11: 8, 9, 11, 12, 14, 15, 24, 25: 0 .. 12", () -> {
            for (int keyword : new int[] {8, 9, 11, 12, 14, 15, 24, 25}) {
                range(keyword, 12);
            }
        });
        Check.sentence("11: 10 a pattern", () -> range(10, 7));
        Check.sentence("11: 13: 0, 1", () -> range(13, 1));
        Check.sentence("11: 16: 0 .. 4095", () -> range(16, 4095));
        Check.sentence("11: the others a schema", SchemaBoundsTest::takesASchema);
    }

    private static void list() {
        Check.sentence("12: how many there are", SchemaBoundsTest::listCounts);
        Check.sentence("12: Schema x is one more of keyword 29 .. 32", SchemaBoundsTest::listKeywords);
        Check.sentence("12: there is no such schema", SchemaBoundsTest::listOfNoSchema);
        Check.sentence("12: IllegalStateException: there are 3", SchemaBoundsTest::listWhenFull);
        Check.sentence("Terms: Lists of at most 3 schemas", SchemaBoundsTest::threeListed);
    }

    private static void named() {
        Check.sentence("13: Keyword 33 .. 35", SchemaBoundsTest::namedKeywords);
        Check.sentence("13: says x for a name (-1: nothing)", SchemaBoundsTest::namedTakenAway);
        Check.sentence("13: there is no such schema", SchemaBoundsTest::namedOfNoSchema);
        Check.sentence("13: or name", SchemaBoundsTest::namedOfNoName);
        Check.sentence("13: x is neither -1 nor a schema (33, 34)", SchemaBoundsTest::namedTakesASchema);
        Check.sentence("13: or 0 .. 4095 (35)", SchemaBoundsTest::namedTakesBits);
    }

    private static Calls world() {
        Calls c = new Calls();
        c.make(Calls.NOTHING);
        c.truth(true);
        c.number(1, 0);
        c.letters("a");
        c.row(ONE, ONE);
        c.members(0, ONE);
        c.number(2, 0);
        c.number(0, 3);
        c.number(-1, -3);
        c.row();
        c.schemas(3);
        c.rule(NO, 0, 0);
        c.item(1, 0, 0);
        return c;
    }

    /** For each keyword 0 .. 28: keyword, what it says so that S is not valid, and of which value. */
    private static final int[][] FAILING = {
        {0, 0, ONE}, {1, TWO, ONE}, {2, EMPTY, ONE}, {3, TWO, ONE}, {4, ZERO, ONE}, {5, ONE, ONE}, {6, ONE, ONE},
        {7, TWO, ONE}, {8, 2, LETTER}, {9, 0, LETTER}, {10, 1, LETTER}, {11, 3, PAIR}, {12, 1, PAIR}, {13, 1, PAIR},
        {14, 2, MEMBER}, {15, 0, MEMBER}, {16, 2, MEMBER}, {17, YES, ONE}, {18, YES, ONE}, {19, NO, ONE},
        {20, NO, ONE}, {21, NO, ONE}, {22, NO, PAIR}, {23, NO, PAIR}, {24, 3, PAIR}, {25, 1, PAIR}, {26, NO, MEMBER},
        {27, NO, MEMBER}, {28, NO, PAIR},
    };

    /** What else a keyword needs so that it is its own word that decides. */
    private static void companions(Calls c, int keyword) {
        if (keyword == 18) {
            c.rule(S, 19, NO);
        }
        if (keyword == 19 || keyword == 20) {
            c.rule(S, 18, keyword == 19 ? YES : NO);
        }
        if (keyword == 24 || keyword == 25) {
            c.rule(S, 23, YES);
        }
    }

    private static void twentyFourSchemas() {
        Calls c = new Calls();
        c.make(Calls.NOTHING);
        for (int s = 0; s < 24; s++) {
            c.due(Calls.ARGUMENT).judge(s, 0);
            c.due(Calls.ARGUMENT).marks(s, 0);
            c.due(s).schema();
            c.due(true).judge(s, 0);
        }
        c.due(Calls.ARGUMENT).judge(24, 0);
        c.due(Calls.ARGUMENT).marks(24, 0);
    }

    /** The schemas before it have all keywords. */
    private static void withoutKeywords() {
        Calls c = world();
        for (int[] failing : FAILING) {
            c.rule(S, failing[0], failing[1]);
        }
        for (int keyword = 29; keyword <= 32; keyword++) {
            for (int n = 0; n < 3; n++) {
                c.list(S, keyword, NO);
            }
        }
        for (int name = 0; name < 12; name++) {
            c.named(S, 33, name, NO);
            c.named(S, 34, name, NO);
            c.named(S, 35, name, 4095);
        }
        c.due(3).schema();
        for (int v = 0; v < VALUES; v++) {
            c.due(true).judge(3, v);
            c.due(0).faults();
            c.due(0).marks(3, v);
        }
    }

    private static void schemaWhenFull() {
        Calls c = new Calls();
        c.make(Calls.NOTHING);
        for (int s = 0; s < 24; s++) {
            c.due(s).schema();
        }
        c.due(Calls.STATE).schema();
        c.due(Calls.STATE).schema();
        c.due(Calls.TAKEN).rule(23, 21, 22);
        c.due(Calls.TAKEN).rule(22, 0, 2);
        c.due(false).judge(23, 0);
        c.allFaults(2200, 2321);
        c.due(Calls.ARGUMENT).rule(24, 0, 0);
        c.due(Calls.ARGUMENT).rule(0, 21, 24);
        c.due(Calls.ARGUMENT).list(0, 29, 24);
        c.due(Calls.ARGUMENT).named(0, 33, 0, 24);
    }

    private static void ruleKeywords() {
        for (int[] failing : FAILING) {
            Calls c = world();
            companions(c, failing[0]);
            if (failing[0] != 20) {
                c.due(true).judge(S, failing[2]);
            }
            c.due(Calls.TAKEN).rule(S, failing[0], failing[1]);
            c.due(false).judge(S, failing[2]);
            c.due(true).judge(YES, failing[2]);
        }
    }

    private static void ruleTakenAway() {
        for (int[] failing : FAILING) {
            Calls c = world();
            companions(c, failing[0]);
            c.due(Calls.TAKEN).rule(S, failing[0], -1);
            c.due(true).judge(S, failing[2]);
            c.rule(S, failing[0], failing[1]);
            c.due(false).judge(S, failing[2]);
            c.due(Calls.TAKEN).rule(S, failing[0], -1);
            c.due(true).judge(S, failing[2]);
            c.due(Calls.TAKEN).rule(S, failing[0], -1);
            c.due(true).judge(S, failing[2]);
            c.rule(S, failing[0], failing[1]);
            c.due(false).judge(S, failing[2]);
        }
    }

    private static void ruleOfNoSchema() {
        Calls c = world();
        for (int s : new int[] {-1, 3, 4, 23, 24, Integer.MIN_VALUE, Integer.MAX_VALUE}) {
            for (int[] failing : FAILING) {
                c.due(Calls.ARGUMENT).rule(s, failing[0], failing[1]);
                c.due(Calls.ARGUMENT).rule(s, failing[0], -1);
            }
        }
    }

    private static void ruleOfNoKeyword() {
        Calls c = world();
        for (int keyword : new int[] {-1, 29, 30, 31, 32, 33, 34, 35, 36, 64, Integer.MIN_VALUE, Integer.MAX_VALUE}) {
            for (int says = -1; says <= 2; says++) {
                c.due(Calls.ARGUMENT).rule(S, keyword, says);
            }
        }
        c.due(Calls.TAKEN).rule(S, 0, 127);
        c.due(Calls.TAKEN).rule(S, 28, YES);
        for (int v = 0; v < VALUES; v++) {
            c.due(true).judge(S, v);
        }
    }

    /** What a keyword said before a refused call, it says behind it. */
    private static void refusedRuleChangesNothing() {
        for (int[] failing : FAILING) {
            Calls c = world();
            companions(c, failing[0]);
            c.rule(S, failing[0], failing[1]);
            for (int says : new int[] {-2, 4096, Integer.MIN_VALUE, Integer.MAX_VALUE}) {
                c.due(Calls.ARGUMENT).rule(S, failing[0], says);
            }
            c.due(false).judge(S, failing[2]);
        }
    }

    /** All of 0 .. most are taken, and what is next to them and far from them is refused. */
    private static void range(int keyword, int most) {
        Calls c = world();
        for (int says = 0; says <= most; says++) {
            c = c.isUsedUp(20) ? world() : c;
            c.due(Calls.TAKEN).rule(S, keyword, says);
        }
        c.due(Calls.TAKEN).rule(S, keyword, -1);
        for (int says : new int[] {-2, most + 1, most + 2, 2 * most + 2, Integer.MIN_VALUE, Integer.MAX_VALUE}) {
            c.due(Calls.ARGUMENT).rule(S, keyword, says);
        }
    }

    private static void noValues(Calls c, int keyword) {
        for (int says : new int[] {-2, VALUES, VALUES + 1, 39, 40, Integer.MIN_VALUE, Integer.MAX_VALUE}) {
            c.due(Calls.ARGUMENT).rule(S, keyword, says);
        }
    }

    private static void takesAValue() {
        Calls c = world();
        for (int v = 0; v < VALUES; v++) {
            c.due(Calls.TAKEN).rule(S, 1, v);
        }
        noValues(c, 1);
        for (int v = VALUES; v < 40; v++) {
            c.due(Calls.ARGUMENT).rule(S, 1, v);
            c.due(v).make(Calls.NOTHING);
            c.due(Calls.TAKEN).rule(S, 1, v);
        }
        c.due(Calls.ARGUMENT).rule(S, 1, 40);
    }

    private static void takesARow() {
        Calls c = world();
        for (int v = 0; v < VALUES; v++) {
            c.due(v == PAIR || v == EMPTY ? Calls.TAKEN : Calls.ARGUMENT).rule(S, 2, v);
        }
        noValues(c, 2);
    }

    private static void takesANumber() {
        Calls c = world();
        for (int keyword = 3; keyword <= 6; keyword++) {
            for (int v = 0; v < VALUES; v++) {
                boolean number = v == ONE || v == TWO || v == ZERO || v == BELOW_ZERO;
                c.due(number ? Calls.TAKEN : Calls.ARGUMENT).rule(S, keyword, v);
            }
            noValues(c, keyword);
        }
    }

    private static void takesOneAboveZero() {
        Calls c = world();
        for (int v = 0; v < VALUES; v++) {
            c.due(v == ONE || v == TWO ? Calls.TAKEN : Calls.ARGUMENT).rule(S, 7, v);
        }
        noValues(c, 7);
        int least = c.number(1, -3);
        int most = c.number(99999, 3);
        int wrapped = c.number(3000, 3);
        int none = c.number(0, -3);
        int below = c.number(-99999, 3);
        c.due(Calls.TAKEN).rule(S, 7, least);
        c.due(Calls.TAKEN).rule(S, 7, most);
        c.due(Calls.TAKEN).rule(S, 7, wrapped);
        c.due(Calls.ARGUMENT).rule(S, 7, none);
        c.due(Calls.ARGUMENT).rule(S, 7, below);
    }

    private static void takesASchema() {
        for (int keyword : new int[] {17, 18, 19, 20, 21, 22, 23, 26, 27, 28}) {
            Calls c = new Calls();
            for (int s = 0; s < 24; s++) {
                c.schema();
                c.due(Calls.TAKEN).rule(0, keyword, s);
                c.due(Calls.ARGUMENT).rule(0, keyword, s + 1);
                c.due(Calls.TAKEN).rule(s, keyword, s);
            }
            c.due(Calls.TAKEN).rule(0, keyword, -1);
            for (int says : new int[] {-2, 25, 40, Integer.MIN_VALUE, Integer.MAX_VALUE}) {
                c.due(Calls.ARGUMENT).rule(0, keyword, says);
            }
        }
    }

    private static void listCounts() {
        Calls c = world();
        for (int n = 1; n <= 3; n++) {
            for (int s = 0; s < 3; s++) {
                for (int keyword = 29; keyword <= 32; keyword++) {
                    c.due(n).list(s, keyword, n - 1);
                }
            }
        }
    }

    private static void listKeywords() {
        Calls c = world();
        for (int keyword : new int[] {-1, 0, 17, 21, 28, 33, 34, 35, 36, Integer.MIN_VALUE, Integer.MAX_VALUE}) {
            c.due(Calls.ARGUMENT).list(S, keyword, YES);
        }
        for (int keyword = 29; keyword <= 32; keyword++) {
            c.due(1).list(S, keyword, NO);
            c.due(false).judge(S, PAIR);
            c.hasFault(Calls.code(PAIR, S, keyword));
        }
    }

    /** Neither as the one that has the list nor as the one that is listed; -1 takes nothing away here. */
    private static void listOfNoSchema() {
        Calls c = world();
        for (int keyword = 29; keyword <= 32; keyword++) {
            for (int s : new int[] {-1, -2, 3, 4, 24, Integer.MIN_VALUE, Integer.MAX_VALUE}) {
                c.due(Calls.ARGUMENT).list(s, keyword, YES);
                c.due(Calls.ARGUMENT).list(S, keyword, s);
            }
            c.due(1).list(S, keyword, S);
        }
        Calls full = new Calls();
        full.schemas(24);
        full.due(Calls.ARGUMENT).list(24, 29, 0);
        full.due(Calls.ARGUMENT).list(0, 29, 24);
        full.due(1).list(23, 32, 23);
    }

    private static void listWhenFull() {
        for (int keyword = 29; keyword <= 32; keyword++) {
            Calls c = world();
            for (int n = 1; n <= 3; n++) {
                c.due(n).list(S, keyword, YES);
            }
            c.due(Calls.STATE).list(S, keyword, NO);
            c.due(Calls.STATE).list(S, keyword, YES);
            c.due(Calls.ARGUMENT).list(S, keyword, 3);
            c.due(Calls.ARGUMENT).list(S, keyword, -1);
            for (int other = 29; other <= 32; other++) {
                c.due(1).list(YES, other, NO);
                if (other != keyword) {
                    c.due(1).list(S, other, YES);
                }
            }
        }
    }

    /** The third one counts, and a fourth one that was refused does not. */
    private static void threeListed() {
        for (int keyword = 29; keyword <= 32; keyword++) {
            Calls c = world();
            int three = c.row(TWO, TWO, TWO, TWO);
            c.list(S, keyword, keyword == 30 || keyword == 31 ? NO : YES);
            c.list(S, keyword, keyword == 30 || keyword == 31 ? NO : YES);
            c.due(keyword == 29 || keyword == 32).judge(S, three);
            c.list(S, keyword, keyword == 30 || keyword == 31 ? YES : NO);
            c.due(keyword == 30 || keyword == 31).judge(S, three);
            c.due(Calls.STATE).list(S, keyword, YES);
            c.due(keyword == 30 || keyword == 31).judge(S, three);
        }
    }

    private static void namedKeywords() {
        Calls c = world();
        for (int keyword : new int[] {-1, 0, 17, 28, 29, 32, 36, Integer.MIN_VALUE, Integer.MAX_VALUE}) {
            c.due(Calls.ARGUMENT).named(S, keyword, 0, YES);
            c.due(Calls.ARGUMENT).named(S, keyword, 0, -1);
        }
        c.due(true).judge(S, MEMBER);
        for (int keyword = 33; keyword <= 35; keyword++) {
            c.due(Calls.TAKEN).named(S, keyword, 0, keyword == 35 ? 2 : NO);
            c.due(false).judge(S, MEMBER);
            c.hasFault(Calls.code(MEMBER, S, keyword));
        }
    }

    private static void namedTakenAway() {
        for (int keyword = 33; keyword <= 35; keyword++) {
            for (int name = 0; name < 12; name++) {
                Calls c = world();
                int v = c.members(name, ONE);
                int says = keyword == 35 ? 4095 : NO;
                c.due(Calls.TAKEN).named(S, keyword, name, -1);
                c.due(true).judge(S, v);
                c.due(Calls.TAKEN).named(S, keyword, name, says);
                c.due(false).judge(S, v);
                c.due(Calls.TAKEN).named(S, keyword, (name + 1) % 12, -1);
                c.due(false).judge(S, v);
                c.due(Calls.TAKEN).named(S, keyword, name, -1);
                c.due(true).judge(S, v);
                c.due(Calls.TAKEN).named(S, keyword, (name + 1) % 12, says);
                c.due(true).judge(S, v);
            }
        }
    }

    private static void namedOfNoSchema() {
        Calls c = world();
        for (int keyword = 33; keyword <= 35; keyword++) {
            for (int s : new int[] {-1, 3, 4, 23, 24, Integer.MIN_VALUE, Integer.MAX_VALUE}) {
                c.due(Calls.ARGUMENT).named(s, keyword, 0, YES);
                c.due(Calls.ARGUMENT).named(s, keyword, 0, -1);
            }
        }
    }

    private static void namedOfNoName() {
        Calls c = world();
        for (int keyword = 33; keyword <= 35; keyword++) {
            for (int name : new int[] {-1, 12, 13, 32, Integer.MIN_VALUE, Integer.MAX_VALUE}) {
                c.due(Calls.ARGUMENT).named(S, keyword, name, NO);
                c.due(Calls.ARGUMENT).named(S, keyword, name, -1);
            }
            c.due(true).judge(S, MEMBER);
            c.due(Calls.TAKEN).named(S, keyword, 0, YES);
            c.due(Calls.TAKEN).named(S, keyword, 11, YES);
        }
    }

    private static void namedTakesASchema() {
        for (int keyword = 33; keyword <= 34; keyword++) {
            Calls c = new Calls();
            for (int s = 0; s < 24; s++) {
                c.schema();
                c.due(Calls.TAKEN).named(0, keyword, 0, s);
                c.due(Calls.ARGUMENT).named(0, keyword, 0, s + 1);
            }
            for (int says : new int[] {-2, 25, 40, 4095, Integer.MIN_VALUE, Integer.MAX_VALUE}) {
                c.due(Calls.ARGUMENT).named(0, keyword, 0, says);
            }
            c.due(Calls.TAKEN).named(0, keyword, 0, -1);
        }
    }

    private static void namedTakesBits() {
        Calls c = world();
        for (int says = 0; says <= 4095; says++) {
            c = c.isUsedUp(20) ? world() : c;
            c.due(Calls.TAKEN).named(S, 35, 0, says);
        }
        for (int says : new int[] {-2, 4096, 4097, 8191, Integer.MIN_VALUE, Integer.MAX_VALUE}) {
            c.due(Calls.ARGUMENT).named(S, 35, 0, says);
        }
        c.due(false).judge(S, MEMBER);
        c.due(Calls.TAKEN).named(S, 35, 0, -1);
        c.due(true).judge(S, MEMBER);
    }
}
