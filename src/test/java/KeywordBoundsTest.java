import java.util.Arrays;

/** The terms of the keywords, which promise 14 judges by: a test for each sentence that names a boundary case. */
public final class KeywordBoundsTest {
    /** In every world here: a schema of which all values are valid, one of which none is, one of numbers, and S. */
    private static final int YES = 0;
    private static final int NO = 1;
    private static final int NUMBERS = 2;
    private static final int S = 3;
    private static final int T = 4;
    /** The first values of every world: one of each kind that has no parts. */
    private static final int NUMBER = 2;
    private static final int TEXT = 3;
    private static final int FIRST_OWN = 4;

    public static void main(String[] args) {
        ofAnyKind();
        ofNumbers();
        ofSizes();
        inPlace();
        ofElements();
        ofMembers();
        Check.end();
    }

    private static void ofAnyKind() {
        Check.sentence("What a keyword says of another kind than named holds", KeywordBoundsTest::ofAnotherKind);
        Check.sentence("0 KIND: bits of kinds", KeywordBoundsTest::kind);
        Check.sentence("0 KIND: 64 for numbers that are whole", KeywordBoundsTest::whole);
        Check.sentence("1 CONSTANT: equal to value x", KeywordBoundsTest::constant);
        Check.sentence("2 ENUMERATION: equal to an element of row x", KeywordBoundsTest::enumeration);
    }

    private static void ofNumbers() {
        Check.sentence("not less than 3 LEAST", () -> bounds(3));
        Check.sentence("not more than 4 MOST", () -> bounds(4));
        Check.sentence("more than 5 ABOVE", () -> bounds(5));
        Check.sentence("less than 6 BELOW", () -> bounds(6));
        Check.sentence("a whole number of times 7 MULTIPLE", KeywordBoundsTest::multiple);
    }

    private static void ofSizes() {
        Check.sentence("not fewer letters than 8 SHORTEST", () -> sizes(8, Calls.TEXT, 8));
        Check.sentence("not more than 9 LONGEST", () -> sizes(9, Calls.TEXT, 8));
        Check.sentence("not fewer elements than 11", () -> sizes(11, Calls.ROW, 8));
        Check.sentence("not more than 12", () -> sizes(12, Calls.ROW, 8));
        Check.sentence("13 UNIQUE: no two equal", KeywordBoundsTest::unique);
        Check.sentence("13 UNIQUE, if x is 1", KeywordBoundsTest::uniqueIfItIsOne);
        Check.sentence("not fewer than 14", () -> sizes(14, Calls.MEMBERS, 12));
        Check.sentence("not more than 15", () -> sizes(15, Calls.MEMBERS, 12));
        Check.sentence("16 REQUIRED: all names of the bits of x are there", KeywordBoundsTest::required);
    }

    private static void inPlace() {
        Check.sentence("17 NOT: schema x is not valid of the value", KeywordBoundsTest::not);
        Check.sentence("18 IF: holds", KeywordBoundsTest::ifHolds);
        Check.sentence("19 THEN: if there is an IF, and that is valid", KeywordBoundsTest::then);
        Check.sentence("20 ELSE: likewise if it is not", KeywordBoundsTest::orElse);
        Check.sentence("21 SAME: schema x is valid of it", KeywordBoundsTest::same);
        Check.sentence("29 ALL: all are valid of the value", () -> listed(29));
        Check.sentence("30 ANY: one or more", () -> listed(30));
        Check.sentence("31 ONE: just one", () -> listed(31));
        Check.sentence("(An empty list, and no names, say nothing.)", KeywordBoundsTest::emptyLists);
    }

    private static void ofElements() {
        Check.sentence("22 ITEMS: but as many first ones as PREFIX has", KeywordBoundsTest::items);
        Check.sentence("32 PREFIX: the k-th one is valid of the k-th element, if there is one", KeywordBoundsTest::prefix);
        Check.sentence("23 CONTAINS: of as many as 24 says, or more", KeywordBoundsTest::contains);
        Check.sentence("23 CONTAINS: (one, if it says nothing)", KeywordBoundsTest::containsOne);
        Check.sentence("25: of no more than x it is", KeywordBoundsTest::containsNoMore);
        Check.sentence("25: if there is a CONTAINS", KeywordBoundsTest::withoutContains);
        Check.sentence("28 REST: of each element that is not MARKED", KeywordBoundsTest::rest);
    }

    private static void ofMembers() {
        Check.sentence("26 ADDITIONAL: of each whose name has no PROPERTY", KeywordBoundsTest::additional);
        Check.sentence("27 OTHERS: of each member that is not MARKED", KeywordBoundsTest::others);
        Check.sentence("27 and 28: MARKED by the other keywords of this schema", KeywordBoundsTest::ofThisSchema);
        Check.sentence("33 PROPERTY: the schema is valid of the member", KeywordBoundsTest::property);
        Check.sentence("34 WITH: if the member is there", KeywordBoundsTest::with);
        Check.sentence("35 NEEDS: if the member is there, so are all of the bits of x", KeywordBoundsTest::needs);
    }

    private static Calls world() {
        Calls c = new Calls();
        c.make(Calls.NOTHING);
        c.truth(true);
        c.number(1, 0);
        c.letters("a");
        c.schemas(5);
        c.rule(NO, 0, 0);
        c.rule(NUMBERS, 0, 4);
        return c;
    }

    /** Whether a keyword of S, which has no other one that could fail, holds of a value. */
    private static void holds(Calls c, int keyword, int v, boolean due) {
        c.due(due).judge(S, v);
        boolean found = false;
        int faults = c.faults();
        for (int i = 0; i < faults; i++) {
            found |= c.fault(i) == Calls.code(v, S, keyword);
        }
        Check.due("a fault of keyword " + keyword + " at value " + v, found, !due);
    }

    /** Each keyword says what never holds of its own kind, and is asked of all others. */
    private static void ofAnotherKind() {
        int[][] never = {{3, Calls.NUMBER}, {4, Calls.NUMBER}, {5, Calls.NUMBER}, {6, Calls.NUMBER}, {7, Calls.NUMBER},
            {8, Calls.TEXT}, {9, Calls.TEXT}, {10, Calls.TEXT}, {11, Calls.ROW}, {12, Calls.ROW}, {13, Calls.ROW},
            {22, Calls.ROW}, {23, Calls.ROW}, {25, Calls.ROW}, {28, Calls.ROW}, {32, Calls.ROW}, {14, Calls.MEMBERS},
            {15, Calls.MEMBERS}, {16, Calls.MEMBERS}, {26, Calls.MEMBERS}, {27, Calls.MEMBERS}, {33, Calls.MEMBERS},
            {34, Calls.MEMBERS}, {35, Calls.MEMBERS}};
        for (int[] of : never) {
            Calls c = world();
            c.row(NUMBER, NUMBER);
            c.members(0, NUMBER, 1, NUMBER);
            int most = c.number(99999, 3);
            int least = c.number(-99999, 3);
            c.item(0, 0, 0);
            if (of[0] == 25) {
                c.rule(S, 23, YES);
            }
            int[] saying = new int[36];
            Arrays.fill(saying, NO);
            int[][] says = {{3, most}, {4, least}, {5, most}, {6, least}, {7, most}, {8, 12}, {9, 0}, {10, 0}, {11, 12},
                {12, 0}, {13, 1}, {14, 12}, {15, 0}, {16, 4095}, {25, 0}, {35, 4095}};
            for (int[] x : says) {
                saying[x[0]] = x[1];
            }
            c.says(S, of[0], saying[of[0]]);
            for (int v = 0; v < 6; v++) {
                holds(c, of[0], v, v != of[1]);
            }
        }
    }

    private static void kind() {
        Calls c = world();
        c.row();
        c.members();
        for (int v = 0; v < 6; v++) {
            for (int bit = 0; bit < 6; bit++) {
                c.rule(S, 0, 1 << bit);
                holds(c, 0, v, v == bit);
            }
            c.rule(S, 0, 0);
            holds(c, 0, v, false);
            c.rule(S, 0, 127);
            holds(c, 0, v, true);
            c.rule(S, 0, 63 ^ 1 << v);
            holds(c, 0, v, false);
        }
    }

    /** As near to a whole number as can be, on both sides of 0, and written with any exponent. */
    private static void whole() {
        int[][] whole = {{0, -3}, {1000, -3}, {-1000, -3}, {99000, -3}, {10, -1}, {1, 0}, {1, 3}, {99999, 3}, {-99999, 3}};
        int[][] not = {{1, -3}, {-1, -3}, {999, -3}, {1001, -3}, {99999, -3}, {-99999, -3}, {5, -1}, {99, -2}};
        for (int turn = 0; turn < 2; turn++) {
            Calls c = world();
            for (int[] n : turn == 0 ? whole : not) {
                int v = c.number(n[0], n[1]);
                c.rule(S, 0, 64);
                holds(c, 0, v, turn == 0);
                c.rule(S, 0, 127 ^ 4);
                holds(c, 0, v, turn == 0);
                c.rule(S, 0, 4);
                holds(c, 0, v, true);
            }
            c.rule(S, 0, 64);
            holds(c, 0, TEXT, false);
            holds(c, 0, 0, false);
        }
    }

    private static void constant() {
        Calls c = world();
        int same = c.number(1000, -3);
        int near = c.number(1001, -3);
        c.rule(S, 1, NUMBER);
        holds(c, 1, NUMBER, true);
        holds(c, 1, same, true);
        holds(c, 1, near, false);
        holds(c, 1, 0, false);
        int r = c.row(NUMBER);
        int like = c.row(same);
        c.rule(S, 1, r);
        holds(c, 1, like, true);
        c.push(like, same);
        holds(c, 1, like, false);
        c.push(r, NUMBER);
        holds(c, 1, like, true);
    }

    private static void enumeration() {
        Calls c = world();
        int r = c.row();
        c.rule(S, 2, r);
        for (int v = 0; v <= r; v++) {
            holds(c, 2, v, false);
        }
        c.push(r, TEXT);
        holds(c, 2, TEXT, true);
        holds(c, 2, NUMBER, false);
        for (int n = 2; n <= 7; n++) {
            c.push(r, 0);
        }
        holds(c, 2, NUMBER, false);
        c.push(r, NUMBER);
        holds(c, 2, NUMBER, true);
        holds(c, 2, TEXT, true);
        holds(c, 2, r, false);
    }

    /** At the bound, the least step below it and above it, and at the ends of all numbers. */
    private static void bounds(int keyword) {
        int[][] numbers = {{-99999, 3}, {-1001, -3}, {-1, 0}, {-999, -3}, {0, 0}, {999, -3}, {10, -1}, {1001, -3},
            {99999, 3}};
        for (int bound = 0; bound < numbers.length; bound++) {
            Calls c = world();
            for (int[] n : numbers) {
                c.number(n[0], n[1]);
            }
            int equal = c.number(numbers[bound][0], numbers[bound][1]);
            c.rule(S, keyword, FIRST_OWN + bound);
            for (int n = 0; n < numbers.length; n++) {
                boolean due = keyword == 3 ? n >= bound : keyword == 4 ? n <= bound : keyword == 5 ? n > bound : n < bound;
                holds(c, keyword, FIRST_OWN + n, due);
            }
            holds(c, keyword, equal, keyword == 3 || keyword == 4);
        }
    }

    private static void multiple() {
        int[][] whole = {{0, 0, 7, 0}, {0, 3, 1, -3}, {7, 0, 7, 0}, {-7, 0, 7, 0}, {14, 0, 7, 0}, {75, -1, 25, -1},
            {-75, -1, 25, -1}, {3, -1, 1, -1}, {99999, 3, 1, -3}, {99999, 3, 99999, -3}, {1, 3, 8, 0}, {1, -3, 1, -3}};
        int[][] not = {{1, 0, 2, 0}, {35, -1, 7, 0}, {-1, -3, 1, -2}, {1, -3, 99999, 3}, {76, -1, 25, -1}, {-76, -1, 25, -1},
            {99998, 3, 99999, -3}, {99999, 3, 2, 3}, {1, -3, 2, -3}, {1001, -3, 1, 0}};
        for (int turn = 0; turn < 2; turn++) {
            for (int[] n : turn == 0 ? whole : not) {
                Calls c = world();
                int v = c.number(n[0], n[1]);
                int unit = c.number(n[2], n[3]);
                c.rule(S, 7, unit);
                holds(c, 7, v, turn == 0);
            }
        }
    }

    /** All sizes up to the most, and all bounds 0 .. 12, also those that no value of the kind can reach. */
    private static void sizes(int keyword, int kind, int most) {
        boolean fewest = keyword == 8 || keyword == 11 || keyword == 14;
        for (int bound = 0; bound <= 12; bound++) {
            Calls c = world();
            c.rule(S, keyword, bound);
            for (int size = 0; size <= most; size++) {
                int v;
                if (kind == Calls.TEXT) {
                    v = c.letters("dcbadcba".substring(0, size));
                } else if (kind == Calls.ROW) {
                    v = c.row(new int[size]);
                } else {
                    v = c.members();
                    for (int n = 0; n < size; n++) {
                        c.put(v, 11 - n, 0);
                    }
                }
                holds(c, keyword, v, fewest ? size >= bound : size <= bound);
            }
        }
    }

    /** No elements, one, and for rows of two to eight: each two places. */
    private static void unique() {
        Calls c = world();
        c.rule(S, 13, 1);
        int empty = c.row();
        int one = c.row(0);
        holds(c, 13, empty, true);
        holds(c, 13, one, true);
        c.members(11, 0);
        int two = c.row(NUMBER, 0);
        holds(c, 13, two, true);
        for (int length = 2; length <= 8; length++) {
            for (int second = 1; second < length; second++) {
                for (int first = 0; first < second; first++) {
                    uniqueBut(length, first, second);
                }
            }
        }
    }

    private static void uniqueBut(int length, int first, int second) {
        Calls c = world();
        c.rule(S, 13, 1);
        int[] elements = new int[length];
        for (int i = 0; i < length; i++) {
            elements[i] = c.number(i, 1);
        }
        int r = c.row(elements);
        elements[second] = c.number(10 * first, 0);
        holds(c, 13, r, true);
        int again = c.row(elements);
        holds(c, 13, again, false);
    }

    private static void uniqueIfItIsOne() {
        Calls c = world();
        int r = c.row(0, 0);
        holds(c, 13, r, true);
        c.rule(S, 13, 0);
        holds(c, 13, r, true);
        c.rule(S, 13, 1);
        holds(c, 13, r, false);
    }

    private static void required() {
        Calls c = world();
        int v = c.members();
        c.rule(S, 16, 0);
        holds(c, 16, v, true);
        for (int name = 0; name < 12; name++) {
            c.rule(S, 16, 1 << name);
            holds(c, 16, v, false);
            c.put(v, name, 0);
            holds(c, 16, v, true);
            c.rule(S, 16, (2 << name) - 1);
            holds(c, 16, v, true);
            c.rule(S, 16, 4095);
            holds(c, 16, v, name == 11);
        }
        c.rule(S, 16, 0);
        holds(c, 16, v, true);
    }

    private static void not() {
        Calls c = world();
        c.rule(S, 17, NUMBERS);
        holds(c, 17, NUMBER, false);
        holds(c, 17, TEXT, true);
    }

    private static void ifHolds() {
        Calls c = world();
        for (int of : new int[] {YES, NO}) {
            c.rule(S, 18, of);
            for (int v = 0; v < 4; v++) {
                holds(c, 18, v, true);
            }
        }
    }

    private static void then() {
        Calls c = world();
        c.rule(S, 19, NO);
        holds(c, 19, NUMBER, true);
        c.due(-1).marks(NO, NUMBER);
        c.rule(S, 18, NUMBERS);
        holds(c, 19, NUMBER, false);
        holds(c, 19, TEXT, true);
        c.due(-1).marks(NO, TEXT);
        c.rule(S, 19, YES);
        holds(c, 19, NUMBER, true);
        c.due(0).marks(YES, NUMBER);
    }

    private static void orElse() {
        Calls c = world();
        c.rule(S, 20, NO);
        holds(c, 20, NUMBER, true);
        c.due(-1).marks(NO, NUMBER);
        c.rule(S, 18, NUMBERS);
        holds(c, 20, TEXT, false);
        holds(c, 20, NUMBER, true);
        c.due(-1).marks(NO, NUMBER);
        c.rule(S, 20, YES);
        holds(c, 20, TEXT, true);
        c.due(0).marks(YES, TEXT);
    }

    private static void same() {
        Calls c = world();
        c.rule(S, 21, NUMBERS);
        holds(c, 21, NUMBER, true);
        holds(c, 21, TEXT, false);
    }

    /** Lists of one to three, with each number of valid ones, in each order. */
    private static void listed(int keyword) {
        for (int length = 1; length <= 3; length++) {
            for (int which = 0; which < 1 << length; which++) {
                Calls c = world();
                for (int k = 0; k < length; k++) {
                    c.due(k + 1).list(S, keyword, (which >> k & 1) != 0 ? YES : NO);
                }
                int valid = Integer.bitCount(which);
                holds(c, keyword, NUMBER, keyword == 29 ? valid == length : keyword == 30 ? valid > 0 : valid == 1);
            }
        }
    }

    /** Of all kinds, and also when another keyword has a list, or the names said something before. */
    private static void emptyLists() {
        for (int listed = 28; listed <= 32; listed++) {
            Calls c = world();
            c.row(NUMBER);
            c.members(0, NUMBER, 11, TEXT);
            if (listed >= 29) {
                c.list(S, listed, YES);
            }
            for (int name = 0; name < 12; name++) {
                c.named(S, 33, name, NO);
                c.named(S, 34, name, NO);
                c.named(S, 35, name, 4095);
            }
            for (int name = 0; name < 12; name++) {
                for (int keyword = 33; keyword <= 35; keyword++) {
                    c.named(S, keyword, name, -1);
                }
            }
            for (int v = 0; v < 6; v++) {
                c.due(true).judge(S, v);
                c.allFaults();
                c.due(listed == 32 && v == 4 ? 1 : 0).marks(S, v);
            }
        }
    }

    /** All lengths of rows and of lists: a text is an element at each place in turn. */
    private static void items() {
        for (int prefix = 0; prefix <= 3; prefix++) {
            for (int length = 0; length <= 8; length++) {
                Calls c = world();
                c.rule(S, 22, NUMBERS);
                for (int k = 0; k < prefix; k++) {
                    c.list(S, 32, YES);
                }
                int[] elements = new int[length];
                Arrays.fill(elements, NUMBER);
                int r = c.row(elements);
                holds(c, 22, r, true);
                c.due((1 << length) - 1).marks(S, r);
                for (int place = 0; place < length; place++) {
                    elements[place] = TEXT;
                    int other = c.row(elements);
                    holds(c, 22, other, place < prefix);
                    c.due(place < prefix ? -1 : 0).marks(NUMBERS, TEXT);
                    elements[place] = NUMBER;
                }
            }
        }
    }

    private static void prefix() {
        for (int place = 0; place < 3; place++) {
            Calls c = world();
            for (int k = 0; k < 3; k++) {
                c.list(S, 32, k == place ? NUMBERS : YES);
            }
            int[] elements = new int[4];
            for (int length = 0; length <= 4; length++) {
                for (int at = 0; at < length; at++) {
                    Arrays.fill(elements, NUMBER);
                    elements[at] = TEXT;
                    int r = c.row(Arrays.copyOf(elements, length));
                    holds(c, 32, r, at != place);
                    c.due(at != place ? Math.min(7, (1 << length) - 1) : 0).marks(S, r);
                }
            }
            int empty = c.row();
            holds(c, 32, empty, true);
            c.due(-1).marks(NUMBERS, NUMBER);
        }
    }

    /** A row of so many texts, and then so many numbers. */
    private static int rowOf(Calls c, int numbers, int texts) {
        int[] elements = new int[numbers + texts];
        Arrays.fill(elements, 0, texts, TEXT);
        Arrays.fill(elements, texts, numbers + texts, NUMBER);
        return c.row(elements);
    }

    private static void contains() {
        for (int says = 0; says <= 12; says++) {
            Calls c = world();
            c.rule(S, 23, NUMBERS);
            c.rule(S, 24, says);
            for (int numbers = 0; numbers <= 8; numbers++) {
                int r = rowOf(c, numbers, Math.min(1, 8 - numbers));
                holds(c, 23, r, numbers >= says);
            }
            int empty = c.row();
            holds(c, 23, empty, says == 0);
        }
    }

    private static void containsOne() {
        Calls c = world();
        c.rule(S, 23, NUMBERS);
        int empty = c.row();
        holds(c, 23, empty, false);
        for (int numbers = 0; numbers <= 8; numbers++) {
            int r = rowOf(c, numbers, Math.min(1, 8 - numbers));
            holds(c, 23, r, numbers >= 1);
        }
        c.rule(S, 24, 2);
        c.rule(S, 24, -1);
        int one = rowOf(c, 1, 7);
        holds(c, 23, one, true);
    }

    private static void containsNoMore() {
        for (int says = 0; says <= 12; says++) {
            Calls c = world();
            c.rule(S, 23, NUMBERS);
            c.rule(S, 24, 0);
            c.rule(S, 25, says);
            for (int numbers = 0; numbers <= 8; numbers++) {
                int r = rowOf(c, numbers, Math.min(1, 8 - numbers));
                holds(c, 25, r, numbers <= says);
            }
            int empty = c.row();
            holds(c, 25, empty, true);
        }
    }

    private static void withoutContains() {
        Calls c = world();
        int r = c.row(NUMBER, NUMBER);
        c.rule(S, 25, 0);
        c.rule(S, 24, 12);
        c.due(true).judge(S, r);
        c.allFaults();
        c.due(0).marks(S, r);
        c.rule(S, 23, NUMBERS);
        c.due(false).judge(S, r);
        c.allFaults(Calls.code(r, S, 23), Calls.code(r, S, 25));
        c.rule(S, 23, -1);
        c.due(true).judge(S, r);
    }

    /** None marked, each number of first ones marked, all marked, and no elements. */
    private static void rest() {
        for (int marked = 0; marked <= 3; marked++) {
            for (int length = 0; length <= 4; length++) {
                Calls c = world();
                c.rule(S, 28, NO);
                for (int k = 0; k < marked; k++) {
                    c.list(S, 32, YES);
                }
                int r = rowOf(c, length, 0);
                holds(c, 28, r, length <= marked);
                c.due(length <= marked ? -1 : 0).marks(NO, NUMBER);
            }
        }
        Calls c = world();
        c.rule(S, 28, NO);
        c.rule(S, 22, YES);
        int full = rowOf(c, 8, 0);
        holds(c, 28, full, true);
        c.due(255).marks(S, full);
        c.rule(S, 22, -1);
        c.rule(S, 28, NUMBERS);
        holds(c, 28, full, true);
        c.due(255).marks(S, full);
    }

    /** No name has a PROPERTY, each one alone, all have one, and no members. */
    private static void additional() {
        Calls c = world();
        c.rule(S, 26, NO);
        int none = c.members();
        holds(c, 26, none, true);
        int all = c.members();
        for (int name = 0; name < 12; name++) {
            c.put(all, name, NUMBER);
            int one = c.members(name, NUMBER);
            holds(c, 26, one, false);
            c.named(S, 33, name, YES);
            holds(c, 26, one, true);
            c.due(-1).marks(NO, NUMBER);
            holds(c, 26, all, true);
            c.named(S, 33, name, -1);
            holds(c, 26, all, false);
            c.named(S, 33, name, YES);
        }
        holds(c, 26, all, true);
        c.due(4095).marks(S, all);
    }

    private static void others() {
        Calls c = world();
        c.rule(S, 27, NO);
        c.rule(S, 21, T);
        int none = c.members();
        holds(c, 27, none, true);
        int all = c.members();
        for (int name = 0; name < 12; name++) {
            c.put(all, name, NUMBER);
            int one = c.members(name, NUMBER);
            holds(c, 27, one, false);
            c.named(T, 33, name, YES);
            holds(c, 27, one, true);
            c.due(-1).marks(NO, NUMBER);
            holds(c, 27, all, true);
            c.named(T, 33, name, -1);
            holds(c, 27, all, false);
            c.named(T, 33, name, YES);
        }
        holds(c, 27, all, true);
        c.due(4095).marks(S, all);
    }

    /** What S marks does not count for T, which S asks in the same place. */
    private static void ofThisSchema() {
        Calls c = world();
        int r = c.row(NUMBER);
        int m = c.members(0, NUMBER);
        c.list(S, 32, YES);
        c.named(S, 33, 0, YES);
        c.rule(S, 21, T);
        c.rule(T, 27, NO);
        c.rule(T, 28, NO);
        for (int v : new int[] {r, m}) {
            holds(c, 21, v, false);
            c.due(0).marks(NO, NUMBER);
            c.hasFault(Calls.code(v, T, v == r ? 28 : 27));
        }
    }

    private static void property() {
        Calls c = world();
        for (int name = 0; name < 12; name++) {
            int there = c.members(name, TEXT);
            int other = c.members((name + 1) % 12, TEXT);
            c.named(S, 33, name, NUMBERS);
            holds(c, 33, there, false);
            c.due(0).marks(NUMBERS, TEXT);
            holds(c, 33, other, true);
            c.due(-1).marks(NUMBERS, TEXT);
            c.put(there, name, NUMBER);
            holds(c, 33, there, true);
            c.due(1 << name).marks(S, there);
            c.named(S, 33, name, -1);
        }
    }

    private static void with() {
        Calls c = world();
        for (int name = 0; name < 12; name++) {
            int there = c.members(name, NUMBER);
            int other = c.members((name + 1) % 12, NUMBER);
            c.named(S, 34, name, NO);
            holds(c, 34, there, false);
            c.due(0).marks(NO, there);
            holds(c, 34, other, true);
            c.due(-1).marks(NO, other);
            c.named(S, 34, name, YES);
            holds(c, 34, there, true);
            c.named(S, 34, name, -1);
        }
    }

    private static void needs() {
        for (int name = 0; name < 12; name++) {
            Calls c = world();
            int there = c.members(name, NUMBER);
            int other = c.members((name + 1) % 12, NUMBER);
            c.named(S, 35, name, 0);
            holds(c, 35, there, true);
            c.named(S, 35, name, 1 << name);
            holds(c, 35, there, true);
            c.named(S, 35, name, 1 << (name + 11) % 12);
            holds(c, 35, there, false);
            holds(c, 35, other, true);
            c.named(S, 35, name, 4095);
            for (int n = 0; n < 12; n++) {
                holds(c, 35, there, false);
                c.put(there, n, NUMBER);
                c.put(there, name, NUMBER);
                if (n == 11 || n == 10 && name == 11) {
                    holds(c, 35, there, true);
                    break;
                }
            }
            holds(c, 35, other, true);
        }
    }
}
