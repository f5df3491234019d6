/** Promises 10 to 13: schemas and what their keywords take. */
public final class SchemasTest {
    private static final int[] FAR = {-2, Integer.MIN_VALUE, Integer.MAX_VALUE};
    /** The values of worldOf: one of each kind and some numbers. */
    private static final int NOTHING = 0;
    private static final int TRUTH = 1;
    private static final int ZERO = 2;
    private static final int TEXT = 3;
    private static final int ROW = 4;
    private static final int MEMBERS = 5;
    private static final int ABOVE_ZERO = 6;
    private static final int BELOW_ZERO = 7;
    private static final int VALUES = 8;

    public static void main(String[] args) {
        schema();
        ruleOfNoSchema();
        ruleOfRange();
        ruleOfValues();
        ruleOfSchemas();
        ruleTakenAway();
        refusalsChangeNothing();
        list();
        named();
        namedTakenAway();
        keywordsStandApart();
        Check.end();
    }

    private static SchemaJudge worldOf(int schemas) {
        SchemaJudge x = new SchemaJudge();
        x.make(0);
        x.truth(true);
        x.number(0, 0);
        x.text(1);
        x.make(4);
        x.make(5);
        x.number(1, -3);
        x.number(-1, 0);
        for (int s = 0; s < schemas; s++) {
            x.schema();
        }
        return x;
    }

    private static void taken(SchemaJudge x, int s, int keyword, int value) {
        Check.due("rule(" + s + ", " + keyword + ", " + value + ")", rule(x, s, keyword, value), "nothing");
    }

    private static void refused(SchemaJudge x, int s, int keyword, int value) {
        Check.due("rule(" + s + ", " + keyword + ", " + value + ")", rule(x, s, keyword, value),
            "throws.IllegalArgumentException");
    }

    private static Object rule(SchemaJudge x, int s, int keyword, int value) {
        return Check.outcome(() -> {
            x.rule(s, keyword, value);
            return "nothing";
        });
    }

    private static Object named(SchemaJudge x, int s, int keyword, int name, int value) {
        return Check.outcome(() -> {
            x.named(s, keyword, name, value);
            return "nothing";
        });
    }

    private static void schema() {
        SchemaJudge x = worldOf(0);
        for (int s = 0; s < 24; s++) {
            Check.due("schema " + s, x.schema(), s);
            Check.due("schema " + s + " has no keywords", x.judge(s, s % VALUES), true);
            Check.due("schema " + s + " has no faults", x.faults(), 0);
        }
        Check.state("schema: 24", () -> x.schema());
        Check.state("schema: still 24", () -> x.schema());
        taken(x, 23, 17, 22);
        refused(x, 24, 0, 1);
    }

    private static void ruleOfNoSchema() {
        SchemaJudge x = worldOf(2);
        for (int s : new int[] {-1, 2, 24, Integer.MIN_VALUE, Integer.MAX_VALUE}) {
            refused(x, s, 0, 1);
            refused(x, s, 0, -1);
        }
        for (int keyword : new int[] {-1, 29, 32, 33, 35, 36, Integer.MIN_VALUE, Integer.MAX_VALUE}) {
            refused(x, 0, keyword, 0);
            refused(x, 0, keyword, -1);
        }
    }

    private static void ruleOfRange() {
        int[][] most = {{0, 127}, {8, 12}, {9, 12}, {11, 12}, {12, 12}, {14, 12}, {15, 12}, {24, 12}, {25, 12},
            {10, 7}, {13, 1}, {16, 4095}};
        for (int[] range : most) {
            SchemaJudge x = worldOf(1);
            taken(x, 0, range[0], 0);
            taken(x, 0, range[0], range[1]);
            taken(x, 0, range[0], -1);
            refused(x, 0, range[0], range[1] + 1);
            for (int far : FAR) {
                refused(x, 0, range[0], far);
            }
        }
    }

    private static void ruleOfValues() {
        SchemaJudge x = worldOf(1);
        for (int v = 0; v < VALUES; v++) {
            taken(x, 0, 1, v);
            if (v == ROW) {
                taken(x, 0, 2, v);
            } else {
                refused(x, 0, 2, v);
            }
            boolean number = v == ZERO || v == ABOVE_ZERO || v == BELOW_ZERO;
            for (int keyword = 3; keyword <= 7; keyword++) {
                if (keyword == 7 ? v == ABOVE_ZERO : number) {
                    taken(x, 0, keyword, v);
                } else {
                    refused(x, 0, keyword, v);
                }
            }
        }
        for (int keyword = 1; keyword <= 7; keyword++) {
            refused(x, 0, keyword, VALUES);
            refused(x, 0, keyword, 40);
            taken(x, 0, keyword, -1);
            for (int far : FAR) {
                refused(x, 0, keyword, far);
            }
        }
    }

    private static void ruleOfSchemas() {
        SchemaJudge x = worldOf(3);
        for (int keyword : new int[] {17, 18, 19, 20, 21, 22, 23, 26, 27, 28}) {
            for (int s = 0; s < 3; s++) {
                taken(x, 1, keyword, s);
            }
            taken(x, 1, keyword, -1);
            refused(x, 1, keyword, 3);
            refused(x, 1, keyword, 24);
            for (int far : FAR) {
                refused(x, 1, keyword, far);
            }
        }
    }

    private static void ruleTakenAway() {
        SchemaJudge x = worldOf(1);
        x.rule(0, 0, 1);
        x.rule(0, 1, NOTHING);
        Check.due("rule: two do not hold", x.judge(0, TRUTH), false);
        Check.due("rule: two faults", x.faults(), 2);
        x.rule(0, 0, -1);
        Check.due("rule: one is taken away", x.judge(0, TRUTH), false);
        Check.due("rule: the other one is left", x.fault(0), 10000 * TRUTH + 1);
        x.rule(0, 1, TRUTH);
        Check.due("rule: it says something else", x.judge(0, TRUTH), true);
        x.rule(0, 1, NOTHING);
        x.rule(0, 1, -1);
        x.rule(0, 1, -1);
        Check.due("rule: none is left", x.judge(0, TRUTH), true);
        x.schema();
        x.rule(1, 0, 0);
        Check.due("rule: of the other schema", x.judge(0, TRUTH), true);
    }

    private static void refusalsChangeNothing() {
        SchemaJudge x = worldOf(1);
        x.rule(0, 0, 1);
        refused(x, 0, 0, 128);
        Check.due("rule: a refusal changes nothing", x.judge(0, NOTHING), true);
        Check.due("rule: a refusal changes nothing, not valid", x.judge(0, TEXT), false);
        Check.due("rule: a refusal changes nothing, members", x.judge(0, MEMBERS), false);
    }

    private static void list() {
        SchemaJudge x = worldOf(4);
        for (int keyword = 29; keyword <= 32; keyword++) {
            int of = keyword;
            for (int n = 1; n <= 3; n++) {
                Check.due("list(0, " + keyword + ", ..)", x.list(0, keyword, n), n);
            }
            Check.state("list: a fourth one", () -> x.list(0, of, 1));
            Check.argument("list: full, but no schema", () -> x.list(0, of, 4));
            Check.due("list: of another schema", x.list(1, keyword, 3), 1);
            Check.due("list: the same again", x.list(1, keyword, 3), 2);
            for (int none : new int[] {-1, 4, 24, Integer.MIN_VALUE, Integer.MAX_VALUE}) {
                Check.argument("list(" + none + ", " + of + ", 0)", () -> x.list(none, of, 0));
                Check.argument("list(0, " + of + ", " + none + ")", () -> x.list(0, of, none));
                Check.argument("list(2, " + of + ", " + none + ")", () -> x.list(2, of, none));
            }
            Check.due("list: after refusals", x.list(2, keyword, 3), 1);
        }
        for (int none : new int[] {-1, 0, 17, 28, 33, 36, Integer.MIN_VALUE, Integer.MAX_VALUE}) {
            Check.argument("list: keyword " + none, () -> x.list(3, none, 0));
        }
    }

    private static void named() {
        SchemaJudge x = worldOf(3);
        for (int keyword = 33; keyword <= 35; keyword++) {
            for (int value = -1; value < 3; value++) {
                Check.due("named(0, " + keyword + ", 0, " + value + ")", named(x, 0, keyword, 0, value), "nothing");
                Check.due("named(2, " + keyword + ", 11, " + value + ")", named(x, 2, keyword, 11, value), "nothing");
            }
            for (int none : new int[] {-1, 12, Integer.MIN_VALUE, Integer.MAX_VALUE}) {
                refusedName(x, 0, keyword, none, 0);
                refusedName(x, 0, keyword, none, -1);
            }
            for (int none : new int[] {-1, 3, 24, Integer.MIN_VALUE, Integer.MAX_VALUE}) {
                refusedName(x, none, keyword, 0, 0);
            }
            for (int none : FAR) {
                refusedName(x, 0, keyword, 0, none);
            }
        }
        refusedName(x, 0, 33, 0, 3);
        refusedName(x, 0, 34, 0, 3);
        refusedName(x, 0, 33, 0, 4095);
        Check.due("named: NEEDS takes all names", named(x, 0, 35, 0, 4095), "nothing");
        refusedName(x, 0, 35, 0, 4096);
        for (int none : new int[] {-1, 0, 29, 32, 36, Integer.MIN_VALUE, Integer.MAX_VALUE}) {
            refusedName(x, 0, none, 0, 0);
        }
    }

    private static void refusedName(SchemaJudge x, int s, int keyword, int name, int value) {
        Check.due("named(" + s + ", " + keyword + ", " + name + ", " + value + ")", named(x, s, keyword, name, value),
            "throws.IllegalArgumentException");
    }

    private static void namedTakenAway() {
        SchemaJudge x = worldOf(2);
        x.rule(1, 0, 0);
        x.put(MEMBERS, 3, NOTHING);
        for (int keyword = 33; keyword <= 35; keyword++) {
            x.named(0, keyword, 3, keyword == 35 ? 16 : 1);
            Check.due("named: keyword " + keyword, x.judge(0, MEMBERS), false);
            x.named(0, keyword, 4, -1);
            Check.due("named: another name is taken away", x.judge(0, MEMBERS), false);
            x.named(0, keyword, 3, -1);
            Check.due("named: taken away", x.judge(0, MEMBERS), true);
            x.named(0, keyword, 4, keyword == 35 ? 4095 : 1);
            Check.due("named: that member is not there", x.judge(0, MEMBERS), true);
        }
    }

    /** Each keyword of the middle one of three schemas is set alone: only there does it say something. */
    private static void keywordsStandApart() {
        int[][] failing = {{0, 0}, {1, NOTHING}, {2, ROW}, {14, 12}, {16, 4095}, {17, 3}, {18, 3}, {21, 4}, {26, 4}, {27, 4},
            {29, 4}, {30, 4}, {31, 4}, {33, 4}, {34, 4}, {35, 4095}};
        for (int[] of : failing) {
            for (int name = 0; name < 12; name++) {
                SchemaJudge x = worldOf(5);
                x.rule(4, 0, 0);
                x.put(MEMBERS, name, NOTHING);
                if (of[0] >= 33) {
                    x.named(1, of[0], name, of[1]);
                } else if (of[0] >= 29) {
                    x.list(1, of[0], of[1]);
                } else {
                    x.rule(1, of[0], of[1]);
                }
                for (int s = 0; s < 3; s++) {
                    boolean due = s != 1 || of[0] == 18;
                    Check.due("keyword " + of[0] + " of schema 1, judged by " + s, x.judge(s, MEMBERS), due);
                }
            }
        }
    }
}
