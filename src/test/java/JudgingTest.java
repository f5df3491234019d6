/** Promises 14 to 17 for the keywords 17 to 35: what is judged, which marks are given, and which faults there are. */
public final class JudgingTest {
    /** In every world here: a schema of which all values are valid, and one of which none is (its only fault: KIND). */
    private static final int YES = 0;
    private static final int NO = 1;
    private static final int S = 2;
    private static final int T = 3;
    private static final int U = 4;
    private static final int NUMBERS = 5;
    /** The values: nothing, a truth, a number, a text, then what a test makes. */
    private static final int NUMBER = 2;
    private static final int TEXT = 3;
    private static final int V = 4;

    public static void main(String[] args) {
        wrongInputs();
        not();
        ifThenElse();
        thenWithoutIf();
        same();
        lists();
        emptyLists();
        items();
        prefix();
        contains();
        containsCounts();
        property();
        additional();
        with();
        needs();
        others();
        rest();
        marksOfFailingKeywords();
        marksInPlace();
        marksOfConditions();
        marksOfUnmarked();
        otherKinds();
        allIsJudged();
        pairsAreJudgedOnce();
        latestJudging();
        orderOfFaults();
        Check.end();
    }

    private static SchemaJudge world() {
        SchemaJudge x = new SchemaJudge();
        x.make(0);
        x.truth(true);
        x.number(1, 0);
        x.text(1);
        for (int s = 0; s <= NUMBERS; s++) {
            x.schema();
        }
        x.rule(NO, 0, 0);
        x.rule(NUMBERS, 0, 4);
        return x;
    }

    private static int row(SchemaJudge x, int... elements) {
        int r = x.make(4);
        for (int v : elements) {
            x.push(r, v);
        }
        return r;
    }

    /** Members in pairs of a name and a value. */
    private static int members(SchemaJudge x, int... members) {
        int r = x.make(5);
        for (int i = 0; i < members.length; i += 2) {
            x.put(r, members[i], members[i + 1]);
        }
        return r;
    }

    private static int code(int v, int s, int keyword) {
        return 10000 * v + 100 * s + keyword;
    }

    /** Judges and looks at the answer and at all faults. */
    private static void judged(String name, SchemaJudge x, int s, int v, int... faults) {
        boolean due = true;
        for (int fault : faults) {
            due &= fault / 10000 != v || fault / 100 % 100 != s;
        }
        Check.due(name + ": judge", Check.outcome(() -> x.judge(s, v)), due);
        StringBuilder want = new StringBuilder();
        for (int fault : faults) {
            want.append(' ').append(fault);
        }
        StringBuilder got = new StringBuilder();
        for (int i = 0; i < x.faults(); i++) {
            got.append(' ').append(x.fault(i));
        }
        Check.due(name + ": faults", got.toString(), want.toString());
        Check.due(name + ": count", x.faults(), faults.length);
        Check.index(name + ": no further fault", () -> x.fault(faults.length));
    }

    private static void marked(String name, SchemaJudge x, int s, int v, int due) {
        Check.due(name + ": marks(" + s + ", " + v + ")", x.marks(s, v), due);
    }

    private static void wrongInputs() {
        SchemaJudge x = world();
        x.judge(NO, NUMBER);
        for (int none : new int[] {-1, 6, 24, Integer.MIN_VALUE, Integer.MAX_VALUE}) {
            Check.argument("judge(" + none + ", 0)", () -> x.judge(none, 0));
            Check.argument("marks(" + none + ", 0)", () -> x.marks(none, 0));
        }
        for (int none : new int[] {-1, V, 40, Integer.MIN_VALUE, Integer.MAX_VALUE}) {
            Check.argument("judge(0, " + none + ")", () -> x.judge(0, none));
            Check.argument("marks(0, " + none + ")", () -> x.marks(0, none));
        }
        for (int none : new int[] {-1, 1, 2, Integer.MIN_VALUE, Integer.MAX_VALUE}) {
            Check.index("fault(" + none + ")", () -> x.fault(none));
        }
        Check.due("refusals leave the latest judging", x.faults(), 1);
        Check.due("refusals leave its fault", x.fault(0), code(NUMBER, NO, 0));
        marked("refusals leave what was judged", x, NO, NUMBER, 0);
        marked("refusals leave what was not judged", x, YES, NUMBER, -1);
    }

    private static void not() {
        SchemaJudge x = world();
        x.rule(S, 17, NO);
        judged("not: of one that is not valid", x, S, NUMBER, code(NUMBER, NO, 0));
        x.rule(S, 17, YES);
        judged("not: of one that is valid", x, S, NUMBER, code(NUMBER, S, 17));
        marked("not: judged", x, YES, NUMBER, 0);
    }

    private static void ifThenElse() {
        SchemaJudge x = world();
        x.rule(S, 18, NUMBERS);
        judged("if alone", x, S, TEXT, code(TEXT, NUMBERS, 0));
        judged("if alone, valid", x, S, NUMBER);
        x.rule(S, 19, T);
        x.rule(S, 20, U);
        judged("if, then and else: valid", x, S, NUMBER);
        marked("then is judged", x, T, NUMBER, 0);
        marked("else is not judged", x, U, NUMBER, -1);
        judged("if, then and else: if is not valid", x, S, TEXT, code(TEXT, NUMBERS, 0));
        marked("then is not judged", x, T, TEXT, -1);
        marked("else is judged", x, U, TEXT, 0);
        x.rule(T, 0, 0);
        judged("then is not valid", x, S, NUMBER, code(NUMBER, S, 19), code(NUMBER, T, 0));
        judged("then is not asked", x, S, TEXT, code(TEXT, NUMBERS, 0));
        x.rule(T, 0, -1);
        x.rule(U, 0, 0);
        judged("else is not valid", x, S, TEXT, code(TEXT, S, 20), code(TEXT, U, 0), code(TEXT, NUMBERS, 0));
        judged("else is not asked", x, S, NUMBER);
    }

    private static void thenWithoutIf() {
        SchemaJudge x = world();
        x.rule(S, 19, NO);
        x.rule(S, 20, NO);
        judged("then and else without if", x, S, NUMBER);
        marked("then and else without if are not judged", x, NO, NUMBER, -1);
    }

    private static void same() {
        SchemaJudge x = world();
        x.rule(S, 21, NUMBERS);
        judged("same: valid", x, S, NUMBER);
        judged("same: not valid", x, S, TEXT, code(TEXT, S, 21), code(TEXT, NUMBERS, 0));
    }

    private static void lists() {
        // How many of three are valid, and then which of ALL, ANY and ONE hold.
        boolean[][] due = {{false, false, false}, {false, true, true}, {false, true, false}, {true, true, false}};
        for (int valid = 0; valid <= 3; valid++) {
            for (int keyword = 29; keyword <= 31; keyword++) {
                for (int turn = 0; turn < 3; turn++) {
                    SchemaJudge x = world();
                    for (int n = 0; n < 3; n++) {
                        x.list(S, keyword, (n + turn) % 3 < valid ? YES : NO);
                    }
                    String name = "keyword " + keyword + ", " + valid + " of 3 are valid, turned by " + turn;
                    Check.due(name, x.judge(S, NUMBER), due[valid][keyword - 29]);
                    int faults = (valid < 3 ? 1 : 0) + (due[valid][keyword - 29] ? 0 : 1);
                    Check.due(name + ": faults", x.faults(), faults);
                }
            }
        }
        SchemaJudge x = world();
        x.list(S, 29, NO);
        x.list(S, 30, NO);
        x.list(S, 31, NO);
        judged("lists: each has its own fault", x, S, NUMBER, code(NUMBER, NO, 0), code(NUMBER, S, 29),
            code(NUMBER, S, 30), code(NUMBER, S, 31));
        SchemaJudge y = world();
        y.list(S, 29, T);
        y.list(S, 29, NO);
        y.list(S, 29, U);
        y.list(S, 30, YES);
        y.list(S, 30, NUMBERS);
        judged("lists: judged though known", y, S, TEXT, code(TEXT, NO, 0), code(TEXT, S, 29), code(TEXT, NUMBERS, 0));
        marked("lists: one behind one that is not valid", y, U, TEXT, 0);
    }

    private static void emptyLists() {
        SchemaJudge x = world();
        int v = row(x, NUMBER);
        judged("empty lists and no names say nothing", x, S, v);
        marked("empty lists give no marks", x, S, v, 0);
    }

    private static void items() {
        SchemaJudge x = world();
        int v = row(x, NUMBER, TEXT, NUMBER);
        x.rule(S, 22, NUMBERS);
        judged("items", x, S, v, code(TEXT, NUMBERS, 0), code(v, S, 22));
        marked("items: not valid", x, S, v, 0);
        marked("items: each is judged", x, NUMBERS, NUMBER, 0);
        int w = row(x, NUMBER, NUMBER);
        judged("items: valid", x, S, w);
        marked("items: all elements", x, S, w, 3);
        int empty = row(x);
        judged("items: no elements", x, S, empty);
        marked("items: no elements", x, S, empty, 0);
    }

    private static void prefix() {
        SchemaJudge x = world();
        int v = row(x, TEXT, NUMBER, TEXT);
        x.list(S, 32, YES);
        judged("prefix of one", x, S, v);
        marked("prefix of one", x, S, v, 1);
        x.list(S, 32, NUMBERS);
        judged("prefix of two", x, S, v);
        marked("prefix of two", x, S, v, 3);
        marked("prefix: only the k-th of the k-th", x, NUMBERS, TEXT, -1);
        int one = row(x, TEXT);
        judged("prefix: longer than the row", x, S, one);
        marked("prefix: longer than the row", x, S, one, 1);
        int wrong = row(x, NUMBER, TEXT);
        judged("prefix: not valid", x, S, wrong, code(TEXT, NUMBERS, 0), code(wrong, S, 32));
        x.rule(S, 22, NUMBERS);
        judged("items behind the prefix", x, S, v, code(TEXT, NUMBERS, 0), code(v, S, 22));
        int right = row(x, TEXT, NUMBER, NUMBER, NUMBER);
        judged("items behind the prefix, valid", x, S, right);
        marked("items behind the prefix", x, S, right, 15);
        judged("items: the row ends before", x, S, one);
        marked("items: the row ends before", x, S, one, 1);
    }

    private static void contains() {
        SchemaJudge x = world();
        int v = row(x, TEXT, NUMBER, TEXT, NUMBER);
        x.rule(S, 23, NUMBERS);
        judged("contains", x, S, v, code(TEXT, NUMBERS, 0));
        marked("contains: those of which it is valid", x, S, v, 10);
        int none = row(x, TEXT, TEXT);
        judged("contains: none", x, S, none, code(TEXT, NUMBERS, 0), code(none, S, 23));
        int empty = row(x);
        judged("contains: no elements", x, S, empty, code(empty, S, 23));
        x.rule(S, 23, -1);
        x.rule(S, 24, 12);
        x.rule(S, 25, 0);
        judged("24 and 25 without contains", x, S, v);
        marked("24 and 25 without contains", x, S, v, 0);
    }

    private static void containsCounts() {
        for (int valid = 0; valid <= 3; valid++) {
            SchemaJudge x = world();
            int v = row(x);
            for (int n = 0; n < valid; n++) {
                x.push(v, NUMBER);
            }
            x.rule(S, 23, NUMBERS);
            for (int bound = 0; bound <= 4; bound++) {
                x.rule(S, 24, bound);
                judged("contains " + valid + ", at least " + bound, x, S, v,
                    valid >= bound ? new int[0] : new int[] {code(v, S, 23)});
            }
            x.rule(S, 24, 0);
            for (int bound = 0; bound <= 4; bound++) {
                x.rule(S, 25, bound);
                judged("contains " + valid + ", at most " + bound, x, S, v,
                    valid <= bound ? new int[0] : new int[] {code(v, S, 25)});
            }
            x.rule(S, 24, 12);
            x.rule(S, 25, 0);
            judged("contains " + valid + ", both", x, S, v,
                valid == 0 ? new int[] {code(v, S, 23)} : new int[] {code(v, S, 23), code(v, S, 25)});
        }
    }

    private static void property() {
        SchemaJudge x = world();
        int v = members(x, 0, NUMBER, 5, TEXT, 11, NUMBER);
        x.named(S, 33, 0, NUMBERS);
        x.named(S, 33, 11, YES);
        x.named(S, 33, 3, NO);
        judged("property", x, S, v);
        marked("property: those that are there", x, S, v, 1 | 1 << 11);
        marked("property: not there, so not judged", x, NO, NUMBER, -1);
        x.named(S, 33, 5, NUMBERS);
        judged("property: not valid", x, S, v, code(TEXT, NUMBERS, 0), code(v, S, 33));
        marked("property: not valid", x, S, v, 0);
        x.named(S, 33, 0, NO);
        judged("property: two are not valid", x, S, v, code(NUMBER, NO, 0), code(TEXT, NUMBERS, 0), code(v, S, 33));
    }

    private static void additional() {
        SchemaJudge x = world();
        int v = members(x, 0, NUMBER, 5, TEXT, 11, NUMBER);
        x.rule(S, 26, NUMBERS);
        judged("additional: not valid", x, S, v, code(TEXT, NUMBERS, 0), code(v, S, 26));
        x.named(S, 33, 5, YES);
        judged("additional: but for a property", x, S, v);
        marked("additional: all", x, S, v, 1 | 1 << 5 | 1 << 11);
        x.named(S, 33, 5, NO);
        judged("additional: a property that is not valid", x, S, v, code(TEXT, NO, 0), code(v, S, 33));
        SchemaJudge y = world();
        int w = members(y, 1, TEXT);
        y.rule(S, 26, NO);
        y.named(S, 34, 1, YES);
        y.named(S, 35, 1, 2);
        judged("additional: WITH and NEEDS are no PROPERTY", y, S, w, code(TEXT, NO, 0), code(w, S, 26));
    }

    private static void with() {
        SchemaJudge x = world();
        int v = members(x, 2, NUMBER);
        x.named(S, 34, 1, NO);
        judged("with: not there", x, S, v);
        marked("with: not judged", x, NO, v, -1);
        x.named(S, 34, 2, T);
        judged("with: there", x, S, v);
        marked("with: judged of the value", x, T, v, 0);
        marked("with: not of the member", x, T, NUMBER, -1);
        x.named(T, 33, 2, YES);
        judged("with: marks", x, S, v);
        marked("with: marks", x, S, v, 4);
        x.rule(T, 15, 0);
        judged("with: not valid", x, S, v, code(v, S, 34), code(v, T, 15));
    }

    private static void needs() {
        SchemaJudge x = world();
        int v = members(x, 2, NUMBER, 4, NUMBER);
        x.named(S, 35, 1, 4095);
        judged("needs: not there", x, S, v);
        x.named(S, 35, 2, 4 | 16);
        judged("needs: all are there", x, S, v);
        marked("needs: no marks", x, S, v, 0);
        x.named(S, 35, 4, 0);
        judged("needs: none", x, S, v);
        x.named(S, 35, 4, 4 | 8);
        judged("needs: one is not there", x, S, v, code(v, S, 35));
        x.put(v, 3, NUMBER);
        judged("needs: now it is", x, S, v);
    }

    private static void others() {
        SchemaJudge x = world();
        int v = members(x, 0, NUMBER, 1, TEXT, 2, NUMBER);
        x.rule(S, 27, NUMBERS);
        judged("others: all", x, S, v, code(TEXT, NUMBERS, 0), code(v, S, 27));
        x.named(S, 33, 1, YES);
        judged("others: but for a property", x, S, v);
        marked("others: all get a mark", x, S, v, 7);
        marked("others: only what is not marked is judged", x, NUMBERS, TEXT, -1);
        x.named(S, 33, 1, -1);
        x.rule(S, 21, T);
        x.named(T, 33, 1, YES);
        judged("others: but for what SAME has marked", x, S, v);
        marked("others: SAME", x, T, v, 2);
        x.rule(T, 15, 2);
        judged("others: SAME is not valid and marks nothing", x, S, v, code(TEXT, NUMBERS, 0), code(v, S, 21),
            code(v, S, 27), code(v, T, 15));
        x.rule(S, 21, -1);
        x.rule(S, 26, YES);
        judged("others: none behind ADDITIONAL", x, S, v);
        marked("others: not judged behind ADDITIONAL", x, NUMBERS, NUMBER, -1);
        SchemaJudge y = world();
        int w = members(y, 1, NUMBER);
        y.rule(S, 27, NO);
        y.named(S, 34, 1, T);
        y.named(T, 33, 1, YES);
        judged("others: marks of WITH", y, S, w);
        y.named(S, 34, 1, -1);
        y.named(S, 35, 1, 2);
        judged("others: NEEDS marks nothing", y, S, w, code(NUMBER, NO, 0), code(w, S, 27));
    }

    private static void rest() {
        SchemaJudge x = world();
        int v = row(x, TEXT, NUMBER, NUMBER);
        x.rule(S, 28, NUMBERS);
        judged("rest: all", x, S, v, code(TEXT, NUMBERS, 0), code(v, S, 28));
        x.list(S, 32, YES);
        judged("rest: behind the prefix", x, S, v);
        marked("rest: all get a mark", x, S, v, 7);
        marked("rest: only what is not marked is judged", x, NUMBERS, TEXT, -1);
        x.rule(S, 28, NO);
        judged("rest: not valid", x, S, v, code(NUMBER, NO, 0), code(v, S, 28));
        x.rule(S, 23, NUMBERS);
        judged("rest: contains marks those of which it is valid", x, S, v, code(TEXT, NUMBERS, 0));
        x.rule(S, 23, -1);
        x.rule(S, 22, YES);
        judged("rest: none behind ITEMS", x, S, v);
        marked("rest: not judged behind ITEMS", x, NO, NUMBER, -1);
    }

    /** Marks count for 27 and 28 whether or not the keyword that gives them holds. */
    private static void marksOfFailingKeywords() {
        SchemaJudge x = world();
        int v = row(x, TEXT, NUMBER);
        x.list(S, 32, NUMBERS);
        x.rule(S, 28, T);
        judged("a prefix that is not valid", x, S, v, code(TEXT, NUMBERS, 0), code(v, S, 32));
        marked("its element counts as marked", x, T, TEXT, -1);
        marked("the other one is judged", x, T, NUMBER, 0);
        SchemaJudge y = world();
        int w = members(y, 0, TEXT, 1, NUMBER);
        y.named(S, 33, 0, NUMBERS);
        y.rule(S, 27, T);
        judged("a property that is not valid", y, S, w, code(TEXT, NUMBERS, 0), code(w, S, 33));
        marked("its member counts as marked", y, T, TEXT, -1);
        marked("the other member is judged", y, T, NUMBER, 0);
        SchemaJudge z = world();
        int u = row(z, NUMBER, NUMBER, TEXT);
        z.rule(S, 23, NUMBERS);
        z.rule(S, 25, 1);
        z.rule(S, 28, T);
        judged("too many are contained", z, S, u, code(TEXT, NUMBERS, 0), code(u, S, 25));
        marked("they count as marked", z, T, NUMBER, -1);
        marked("the one that is not contained is judged", z, T, TEXT, 0);
    }

    private static void marksInPlace() {
        for (int keyword = 29; keyword <= 31; keyword++) {
            SchemaJudge x = world();
            int v = members(x, 0, NUMBER, 1, NUMBER, 2, NUMBER);
            x.named(T, 33, 0, YES);
            x.named(U, 33, 1, keyword == 29 ? YES : NO);
            x.list(S, keyword, T);
            x.list(S, keyword, U);
            int due = keyword == 29 ? 3 : 1;
            Check.due("marks by keyword " + keyword + ": judge", x.judge(S, v), true);
            marked("marks by keyword " + keyword, x, S, v, due);
            marked("marks of the one that is valid", x, T, v, 1);
            marked("marks of the other one", x, U, v, keyword == 29 ? 2 : 0);
        }
        SchemaJudge x = world();
        int v = members(x, 0, NUMBER, 1, NUMBER, 2, TEXT);
        x.named(T, 33, 0, YES);
        x.named(U, 33, 1, YES);
        x.list(S, 31, T);
        x.list(S, 31, U);
        x.rule(S, 27, NUMBERS);
        judged("ONE: two are valid, both mark", x, S, v, code(TEXT, NUMBERS, 0), code(v, S, 27), code(v, S, 31));
        marked("ONE: two are valid, what they mark is not judged", x, NUMBERS, NUMBER, -1);
        SchemaJudge y = world();
        int w = members(y, 0, NUMBER);
        y.rule(S, 17, T);
        y.named(T, 33, 0, NO);
        judged("NOT: holds", y, S, w, code(NUMBER, NO, 0), code(w, T, 33));
        marked("NOT: gives no marks", y, S, w, 0);
        y.named(T, 33, 0, YES);
        y.rule(S, 27, NUMBERS);
        judged("NOT: does not hold, and marks nothing", y, S, w, code(w, S, 17));
        marked("NOT: what its schema marks is judged", y, NUMBERS, NUMBER, 0);
    }

    private static void marksOfConditions() {
        SchemaJudge x = world();
        int v = members(x, 0, NUMBER, 1, TEXT, 2, TEXT);
        x.rule(S, 18, T);
        x.named(T, 33, 0, NUMBERS);
        judged("IF alone", x, S, v);
        marked("IF alone gives marks", x, S, v, 1);
        x.rule(S, 19, U);
        x.named(U, 33, 1, YES);
        judged("IF and THEN", x, S, v);
        marked("IF and THEN give marks", x, S, v, 3);
        x.rule(S, 19, -1);
        x.rule(S, 20, U);
        judged("IF without THEN", x, S, v);
        marked("ELSE gives no marks", x, S, v, 1);
        x.named(T, 33, 0, NO);
        judged("IF and ELSE", x, S, v, code(NUMBER, NO, 0), code(v, T, 33));
        marked("ELSE gives marks, IF none", x, S, v, 2);
    }

    private static void marksOfUnmarked() {
        SchemaJudge x = world();
        int v = members(x, 0, NUMBER, 1, TEXT);
        x.rule(T, 27, YES);
        x.rule(S, 21, T);
        x.rule(S, 27, NO);
        judged("OTHERS below marks all", x, S, v);
        marked("OTHERS below", x, T, v, 3);
        marked("taken over from below", x, S, v, 3);
        SchemaJudge y = world();
        int w = row(y, NUMBER, TEXT);
        y.rule(T, 28, YES);
        y.list(S, 29, T);
        y.rule(S, 28, NO);
        judged("REST below marks all", y, S, w);
        marked("REST below", y, T, w, 3);
        marked("taken over from REST below", y, S, w, 3);
    }

    /** What a keyword says of another kind holds, asks for no judging and gives no marks. */
    private static void otherKinds() {
        SchemaJudge x = world();
        int r = row(x, NUMBER, TEXT);
        int m = members(x, 0, NUMBER, 1, TEXT);
        for (int keyword : new int[] {22, 23, 28}) {
            x.rule(S, keyword, NO);
        }
        x.list(S, 32, NO);
        x.rule(S, 24, 3);
        x.rule(S, 25, 0);
        for (int v : new int[] {0, 1, 2, 3, m}) {
            judged("keywords of rows", x, S, v);
            marked("keywords of rows", x, S, v, 0);
        }
        for (int keyword : new int[] {26, 27}) {
            x.rule(T, keyword, NO);
        }
        for (int name = 0; name < 12; name++) {
            x.named(T, 33, name, NO);
            x.named(T, 34, name, NO);
            x.named(T, 35, name, 4095);
        }
        for (int v : new int[] {0, 1, 2, 3, r}) {
            judged("keywords of members", x, T, v);
            marked("keywords of members", x, T, v, 0);
            marked("keywords of members: not judged", x, NO, v, -1);
        }
    }

    /** All keywords are looked at, also when the value is known to be not valid. */
    private static void allIsJudged() {
        SchemaJudge x = world();
        int v = row(x, NUMBER, TEXT);
        x.rule(S, 0, 0);
        x.rule(S, 17, YES);
        x.rule(S, 18, T);
        x.rule(S, 19, NO);
        x.rule(S, 22, NO);
        x.rule(S, 23, NUMBERS);
        x.list(S, 30, YES);
        x.list(S, 30, U);
        judged("all is judged", x, S, v, code(NUMBER, NO, 0), code(TEXT, NO, 0), code(TEXT, NUMBERS, 0), code(v, NO, 0),
            code(v, S, 0), code(v, S, 17), code(v, S, 19), code(v, S, 22));
        marked("all is judged: behind one that is valid", x, U, v, 0);
        marked("all is judged: contains behind the first one", x, NUMBERS, TEXT, 0);
    }

    private static void pairsAreJudgedOnce() {
        SchemaJudge x = world();
        int v = row(x, TEXT, TEXT, TEXT);
        x.rule(S, 22, NUMBERS);
        x.rule(S, 23, NUMBERS);
        judged("the same fault counts once", x, S, v, code(TEXT, NUMBERS, 0), code(v, S, 22), code(v, S, 23));
        int equal = x.text(1);
        int w = row(x, TEXT, equal);
        judged("equal values are not the same", x, S, w, code(TEXT, NUMBERS, 0), code(equal, NUMBERS, 0),
            code(w, S, 22), code(w, S, 23));
    }

    private static void latestJudging() {
        SchemaJudge x = world();
        int v = row(x, NUMBER);
        x.rule(S, 22, NO);
        judged("first judging", x, S, v, code(NUMBER, NO, 0), code(v, S, 22));
        judged("second judging", x, YES, TEXT);
        marked("of the first judging", x, S, v, -1);
        marked("of the first judging, below", x, NO, NUMBER, -1);
        marked("of the second judging", x, YES, TEXT, 0);
        x.rule(S, 22, YES);
        judged("third judging", x, S, v);
        x.push(v, TEXT);
        x.rule(S, 22, NO);
        marked("later changes do not count", x, S, v, 1);
        Check.due("later changes give no faults", x.faults(), 0);
        int w = x.make(0);
        int s = x.schema();
        marked("a later value", x, S, w, -1);
        marked("a later schema", x, s, v, -1);
    }

    private static void orderOfFaults() {
        SchemaJudge x = new SchemaJudge();
        for (int s = 0; s < 24; s++) {
            x.schema();
        }
        for (int v = 0; v < 32; v++) {
            x.make(0);
        }
        for (int v = 32; v < 40; v++) {
            int r = x.make(4);
            for (int n = 0; n < 8; n++) {
                x.push(r, 8 * ((v - 32) % 4) + 7 - n);
            }
        }
        x.rule(23, 0, 1);
        x.rule(23, 11, 9);
        x.rule(23, 22, 5);
        x.rule(5, 0, 2);
        x.rule(5, 1, 39);
        x.rule(23, 28, 1);
        x.list(23, 32, 7);
        x.rule(7, 0, 4);
        judged("order of faults", x, 23, 39, 240500, 240501, 250500, 250501, 260500, 260501, 270500, 270501, 280500,
            280501, 290500, 290501, 300500, 300501, 310700, 392300, 392311, 392322, 392332);
    }
}
