/** Promises 14 to 17 and the terms of judging: a test for each sentence that names a boundary case. */
public final class JudgingBoundsTest {
    /** In every world here: a schema of which all values are valid, one of which none is, one of numbers, and three more. */
    private static final int YES = 0;
    private static final int NO = 1;
    private static final int NUMBERS = 2;
    private static final int S = 3;
    private static final int T = 4;
    private static final int U = 5;
    private static final int SCHEMAS = 6;
    /** The first values of every world: one of each kind that has no parts. */
    private static final int NUMBER = 2;
    private static final int TEXT = 3;
    private static final int FIRST_OWN = 4;
    private static final int[] IN_PLACE = {17, 18, 19, 20, 21, 29, 30, 31, 34};
    private static final int[] ELSEWHERE = {22, 23, 26, 27, 28, 32, 33};
    private static final int[] FAR = {Integer.MIN_VALUE, Integer.MAX_VALUE};

    public static void main(String[] args) {
        marksGiven();
        whatIsJudged();
        judge();
        marks();
        faults();
        Check.sentence("An object is used for at most 512 calls", JudgingBoundsTest::theLastCall);
        Check.end();
    }

    private static void marksGiven() {
        Check.sentence("Terms: those of PREFIX that are there", JudgingBoundsTest::marksOfPrefix);
        Check.sentence("Terms: those of PROPERTY that are there", JudgingBoundsTest::marksOfProperty);
        Check.sentence("Terms: all from those of PREFIX on, if there is ITEMS", JudgingBoundsTest::marksOfItems);
        Check.sentence("Terms: those of which CONTAINS is valid", JudgingBoundsTest::marksOfContains);
        Check.sentence("Terms: all without a PROPERTY, if there is ADDITIONAL", JudgingBoundsTest::marksOfAdditional);
        Check.sentence("Terms: those that 18 to 21, 29 to 31, 34 give by schemas that are valid",
            JudgingBoundsTest::marksInPlace);
        Check.sentence("Terms: (not NOT)", JudgingBoundsTest::noMarksOfNot);
        Check.sentence("Terms: for 27 and 28 these count as MARKED", JudgingBoundsTest::countAsMarked);
        Check.sentence("Terms: for 27 and 28 these count, also if the keyword does not hold",
            JudgingBoundsTest::countThoughNotHeld);
        Check.sentence("Terms: if there is one of the two, those without a mark get one, too",
            JudgingBoundsTest::marksOfTheTwo);
        Check.sentence("Terms: Not valid, it has none", JudgingBoundsTest::noMarksIfNotValid);
    }

    private static void whatIsJudged() {
        Check.sentence("Terms: all keywords are looked at", JudgingBoundsTest::allKeywords);
        Check.sentence("Terms: THEN and ELSE are only judged as said", JudgingBoundsTest::thenAndElse);
        Check.sentence("Terms: the schema of WITH when the member is there", JudgingBoundsTest::withWhenThere);
        Check.sentence("Terms: 27 and 28 only for what is not marked", JudgingBoundsTest::onlyNotMarked);
        Check.sentence("Terms: also when the keyword's answer is known already", JudgingBoundsTest::alsoWhenKnown);
        Check.sentence("Terms: A FAULT is a value, a schema and a keyword", JudgingBoundsTest::oneFaultOfThree);
    }

    private static void judge() {
        Check.sentence("14: there is no such schema or value", JudgingBoundsTest::judgeOfNone);
        Check.sentence("Terms: A schema LEADS in place by 17 to 21, 29 to 31 and 34", JudgingBoundsTest::leadsInPlace);
        Check.sentence("Terms: and elsewhere by the other keywords with schemas", JudgingBoundsTest::leadsElsewhere);
        Check.sentence("14: or s itself", JudgingBoundsTest::itself);
        Check.sentence("14: leads to itself in place, over others or not", JudgingBoundsTest::circleOverOthers);
        Check.sentence("14: some schema to which s leads, over others or not", JudgingBoundsTest::wayToTheCircle);
        Check.sentence("14: a chain of more than 30 judged pairs", JudgingBoundsTest::chainOfThirty);
        Check.sentence("14: judged pairs of a schema and a value", JudgingBoundsTest::pairsInPlaceAndElsewhere);
        Check.sentence("14: from this one on", JudgingBoundsTest::fromThisOneOn);
        Check.sentence("14: each asked for by the one before", JudgingBoundsTest::onlyWhatIsAskedFor);
        Check.sentence("14: After a circle nothing counts as judged", JudgingBoundsTest::nothingAfterCircle);
        Check.sentence("14: After a chain nothing counts as judged", JudgingBoundsTest::nothingAfterChain);
    }

    private static void marks() {
        Check.sentence("15: bits of elements (the first one: 1)", JudgingBoundsTest::bitsOfElements);
        Check.sentence("15: or names", JudgingBoundsTest::bitsOfNames);
        Check.sentence("15: -1 if it was not judged by that then", JudgingBoundsTest::notJudged);
        Check.sentence("15: in the latest judging", JudgingBoundsTest::marksOfTheLatest);
        Check.sentence("15: there is no such schema or value", JudgingBoundsTest::marksOfNone);
    }

    private static void faults() {
        Check.sentence("16: How many faults there were", JudgingBoundsTest::countOfFaults);
        Check.sentence("16: in the latest judging", JudgingBoundsTest::faultsOfTheLatest);
        Check.sentence("17: from 0, by their values", JudgingBoundsTest::orderOfValues);
        Check.sentence("17: then schemas", JudgingBoundsTest::orderOfSchemas);
        Check.sentence("17: then keywords", JudgingBoundsTest::orderOfKeywords);
        Check.sentence("17: 10000 * value + 100 * schema + keyword", JudgingBoundsTest::leastAndGreatestFault);
        Check.sentence("17: IndexOutOfBoundsException: there is none", JudgingBoundsTest::noSuchFault);
    }

    private static Calls world() {
        Calls c = new Calls();
        c.make(Calls.NOTHING);
        c.truth(true);
        c.number(1, 0);
        c.letters("a");
        c.schemas(SCHEMAS);
        c.rule(NO, 0, 0);
        c.rule(NUMBERS, 0, 4);
        return c;
    }

    /** A row of numbers, and a text at one place (or nowhere, if that is beyond it). */
    private static int numbersBut(Calls c, int length, int place) {
        int r = c.make(Calls.ROW);
        for (int i = 0; i < length; i++) {
            c.push(r, i == place ? TEXT : NUMBER);
        }
        return r;
    }

    /** Value FIRST_OWN + n is a row that holds the one before it; the first one holds nothing. */
    private static Calls tower(int height) {
        Calls c = world();
        c.row();
        for (int v = FIRST_OWN + 1; v < FIRST_OWN + height; v++) {
            c.row(v - 1);
        }
        return c;
    }

    private static void marksOfPrefix() {
        for (int listed = 0; listed <= 3; listed++) {
            for (int length = 0; length <= 8; length++) {
                Calls c = world();
                for (int k = 0; k < listed; k++) {
                    c.list(S, 32, YES);
                }
                int r = numbersBut(c, length, -1);
                c.due(true).judge(S, r);
                c.due((1 << Math.min(listed, length)) - 1).marks(S, r);
            }
        }
    }

    private static void marksOfProperty() {
        Calls c = world();
        int v = c.members(0, NUMBER, 6, NUMBER, 11, NUMBER);
        c.due(true).judge(S, v);
        c.due(0).marks(S, v);
        int due = 0;
        for (int name = 0; name < 12; name++) {
            c.named(S, 33, name, YES);
            due |= name % 6 == 0 || name == 11 ? 1 << name : 0;
            c.due(true).judge(S, v);
            c.due(due).marks(S, v);
        }
    }

    /** The row may end before the prefix does, with it, or behind it. */
    private static void marksOfItems() {
        for (int listed = 0; listed <= 3; listed++) {
            for (int length = 0; length <= 8; length++) {
                Calls c = world();
                c.rule(S, 22, YES);
                for (int k = 0; k < listed; k++) {
                    c.list(S, 32, YES);
                }
                int r = numbersBut(c, length, -1);
                c.due(true).judge(S, r);
                c.due((1 << length) - 1).marks(S, r);
            }
        }
    }

    private static void marksOfContains() {
        Calls c = world();
        c.rule(S, 23, NUMBERS);
        c.rule(S, 24, 0);
        int empty = c.row();
        c.due(true).judge(S, empty);
        c.due(0).marks(S, empty);
        int none = c.row(TEXT, TEXT);
        c.due(true).judge(S, none);
        c.due(0).marks(S, none);
        for (int place = 0; place <= 8; place++) {
            int r = numbersBut(c, 8, place);
            c.due(true).judge(S, r);
            c.due(255 & ~(1 << place)).marks(S, r);
        }
    }

    private static void marksOfAdditional() {
        Calls c = world();
        c.rule(S, 26, YES);
        int none = c.members();
        c.due(true).judge(S, none);
        c.due(0).marks(S, none);
        int v = c.members(0, NUMBER, 4, NUMBER, 11, NUMBER);
        c.due(true).judge(S, v);
        c.due(2065).marks(S, v);
        c.rule(S, 26, -1);
        c.due(true).judge(S, v);
        c.due(0).marks(S, v);
    }

    /** T marks the member 0 if it is valid; with a KIND that no value has it is not. */
    private static void marksInPlace() {
        for (int keyword : IN_PLACE) {
            for (int valid = 0; valid < 2; valid++) {
                Calls c = world();
                int v = c.members(0, NUMBER, 1, NUMBER);
                c.named(T, 33, 0, YES);
                c.rule(T, 0, valid == 1 ? 127 : 0);
                if (keyword == 19 || keyword == 20) {
                    c.rule(S, 18, keyword == 19 ? YES : NO);
                }
                c.says(S, keyword, T);
                if (keyword == 30 || keyword == 31) {
                    c.list(S, keyword, valid == 1 ? NO : YES);
                }
                boolean holds = keyword == 17 ? valid == 0 : valid == 1 || keyword == 18 || keyword == 30 || keyword == 31;
                c.due(holds).judge(S, v);
                c.due(valid == 1 && keyword != 17 ? 1 : 0).marks(S, v);
                c.due(valid).marks(T, v);
            }
        }
    }

    private static void noMarksOfNot() {
        Calls c = world();
        int v = c.members(0, NUMBER);
        c.named(T, 33, 0, YES);
        c.rule(S, 17, T);
        c.rule(S, 27, U);
        c.due(false).judge(S, v);
        c.allFaults(Calls.code(v, S, 17));
        c.due(1).marks(T, v);
        c.due(0).marks(U, NUMBER);
        c.rule(T, 0, 0);
        c.due(true).judge(S, v);
        c.due(0).marks(U, NUMBER);
        c.due(1).marks(S, v);
        c.rule(S, 27, -1);
        c.due(true).judge(S, v);
        c.due(0).marks(S, v);
    }

    /** What any other keyword marks is not judged by U, and all else is. */
    private static void countAsMarked() {
        for (int keyword : new int[] {22, 23, 32, 21, 29, 30, 31, 18}) {
            Calls c = world();
            int r = c.row(NUMBER, TEXT);
            c.list(T, 32, NUMBERS);
            c.says(S, keyword, keyword == 23 || keyword == 32 ? NUMBERS : keyword == 22 ? YES : T);
            c.rule(S, 28, U);
            c.due(true).judge(S, r);
            c.due(-1).marks(U, NUMBER);
            c.due(keyword == 22 ? -1 : 0).marks(U, TEXT);
            c.due(3).marks(S, r);
        }
        for (int keyword : new int[] {26, 33, 21, 29, 30, 31, 18, 34}) {
            Calls c = world();
            int v = c.members(0, NUMBER, 1, TEXT);
            c.named(T, 33, 0, NUMBERS);
            c.says(S, keyword, keyword == 33 ? NUMBERS : keyword == 26 ? YES : T);
            c.rule(S, 27, U);
            c.due(true).judge(S, v);
            c.due(-1).marks(U, NUMBER);
            c.due(keyword == 26 ? -1 : 0).marks(U, TEXT);
            c.due(3).marks(S, v);
        }
    }

    /** What is marked is what PREFIX, PROPERTY, .. speak of: the words do not ask whether it is valid. */
    private static void countThoughNotHeld() {
        for (int keyword : new int[] {22, 32, 26, 33}) {
            Calls c = world();
            int v = keyword == 22 || keyword == 32 ? c.row(TEXT) : c.members(0, TEXT);
            c.says(S, keyword, NUMBERS);
            c.rule(S, 27, U);
            c.rule(S, 28, U);
            c.due(false).judge(S, v);
            c.allFaults(Calls.code(TEXT, NUMBERS, 0), Calls.code(v, S, keyword));
            c.due(-1).marks(U, TEXT);
            c.due(0).marks(S, v);
        }
        Calls c = world();
        int r = c.row(NUMBER, NUMBER, TEXT);
        c.rule(S, 23, NUMBERS);
        c.rule(S, 25, 1);
        c.rule(S, 28, U);
        c.due(false).judge(S, r);
        c.due(-1).marks(U, NUMBER);
        c.due(0).marks(U, TEXT);
        int m = c.members(0, NUMBER, 1, TEXT);
        c.rule(S, 27, U);
        c.named(T, 33, 0, YES);
        c.list(S, 31, T);
        c.list(S, 31, YES);
        c.due(false).judge(S, m);
        c.allFaults(Calls.code(m, S, 31));
        c.due(-1).marks(U, NUMBER);
        c.due(0).marks(U, TEXT);
    }

    /** OTHERS for members, REST for elements: none there, none marked, some marked, all marked. */
    private static void marksOfTheTwo() {
        for (int size = 0; size <= 8; size++) {
            for (int marked = 0; marked <= 3; marked++) {
                Calls c = world();
                int r = numbersBut(c, size, -1);
                int m = c.members();
                for (int n = 0; n < size; n++) {
                    c.put(m, n, NUMBER);
                }
                for (int n = 0; n < marked; n++) {
                    c.list(S, 32, YES);
                    c.named(T, 33, n, YES);
                }
                c.rule(S, 28, NUMBERS);
                c.rule(T, 27, NUMBERS);
                c.due(true).judge(S, r);
                c.due((1 << size) - 1).marks(S, r);
                c.due(true).judge(T, m);
                c.due((1 << size) - 1).marks(T, m);
            }
        }
        Calls c = world();
        int r = c.row(NUMBER);
        int m = c.members(0, NUMBER);
        c.rule(S, 27, YES);
        c.rule(T, 28, YES);
        c.due(true).judge(S, r);
        c.due(0).marks(S, r);
        c.due(true).judge(T, m);
        c.due(0).marks(T, m);
    }

    private static void noMarksIfNotValid() {
        Calls c = world();
        int r = numbersBut(c, 8, -1);
        c.rule(S, 22, YES);
        c.rule(S, 28, YES);
        c.due(true).judge(S, r);
        c.due(255).marks(S, r);
        c.rule(S, 12, 7);
        c.due(false).judge(S, r);
        c.due(0).marks(S, r);
        c.rule(T, 18, S);
        c.due(true).judge(T, r);
        c.due(0).marks(T, r);
        c.due(0).marks(S, r);
    }

    /** Those that come behind one that does not hold, and those before it. */
    private static void allKeywords() {
        Calls c = world();
        int v = c.members(0, NUMBER);
        c.rule(S, 0, 1);
        c.rule(S, 1, NUMBER);
        c.rule(S, 14, 2);
        c.rule(S, 15, 0);
        c.rule(S, 16, 2);
        c.rule(S, 17, YES);
        c.rule(S, 21, NO);
        c.rule(S, 26, NO);
        c.list(S, 29, NO);
        c.list(S, 30, NO);
        c.list(S, 31, NO);
        c.named(S, 34, 0, NO);
        c.named(S, 35, 0, 2);
        c.due(false).judge(S, v);
        int first = Calls.code(v, S, 0);
        c.allFaults(Calls.code(NUMBER, NO, 0), Calls.code(v, NO, 0), first, first + 1, first + 14, first + 15, first + 16,
            first + 17, first + 21, first + 26, first + 29, first + 30, first + 31, first + 34, first + 35);
    }

    private static void thenAndElse() {
        for (int keyword = 19; keyword <= 20; keyword++) {
            Calls c = world();
            c.rule(S, keyword, T);
            c.due(true).judge(S, NUMBER);
            c.due(-1).marks(T, NUMBER);
            c.rule(S, 18, YES);
            c.due(true).judge(S, NUMBER);
            c.due(keyword == 19 ? 0 : -1).marks(T, NUMBER);
            c.rule(S, 18, NO);
            c.due(true).judge(S, NUMBER);
            c.due(keyword == 20 ? 0 : -1).marks(T, NUMBER);
        }
    }

    private static void withWhenThere() {
        Calls c = world();
        int v = c.members();
        for (int name = 0; name < 12; name++) {
            c.named(S, 34, name, T);
            c.due(true).judge(S, v);
            c.due(-1).marks(T, v);
            c.put(v, name, NUMBER);
            c.due(true).judge(S, v);
            c.due(0).marks(T, v);
            c.due(-1).marks(T, NUMBER);
            c.named(S, 34, name, -1);
        }
    }

    private static void onlyNotMarked() {
        Calls c = world();
        int r = c.row(NUMBER, TEXT);
        int m = c.members(3, NUMBER, 9, TEXT);
        c.rule(S, 27, U);
        c.rule(S, 28, U);
        c.list(S, 32, YES);
        c.named(S, 33, 3, YES);
        for (int v : new int[] {r, m}) {
            c.due(true).judge(S, v);
            c.due(-1).marks(U, NUMBER);
            c.due(0).marks(U, TEXT);
        }
        c.list(S, 32, YES);
        c.named(S, 33, 9, YES);
        for (int v : new int[] {r, m}) {
            c.due(true).judge(S, v);
            c.due(-1).marks(U, NUMBER);
            c.due(-1).marks(U, TEXT);
        }
    }

    /** The last one of each list and of each row is judged, though the first ones have settled the answer. */
    private static void alsoWhenKnown() {
        for (int keyword = 29; keyword <= 31; keyword++) {
            Calls c = world();
            c.list(S, keyword, keyword == 29 ? NO : YES);
            c.list(S, keyword, keyword == 29 ? NO : YES);
            c.list(S, keyword, T);
            c.due(keyword == 30).judge(S, NUMBER);
            c.due(0).marks(T, NUMBER);
        }
        for (int keyword : new int[] {22, 23, 28, 26, 27, 33, 32}) {
            Calls c = world();
            int r = c.row(TEXT, TEXT, NUMBER);
            int m = c.members(0, TEXT, 1, TEXT, 11, NUMBER);
            for (int n = 0; n < 3; n++) {
                if (keyword == 32) {
                    c.list(S, 32, NUMBERS);
                } else if (keyword == 33) {
                    c.named(S, 33, n == 2 ? 11 : n, NUMBERS);
                } else {
                    c.rule(S, keyword, NUMBERS);
                }
            }
            int v = keyword == 26 || keyword == 27 || keyword == 33 ? m : r;
            c.due(keyword == 23).judge(S, v);
            c.due(0).marks(NUMBERS, NUMBER);
            c.due(0).marks(NUMBERS, TEXT);
        }
        Calls c = world();
        int r = c.row(NUMBER, NUMBER, TEXT);
        c.rule(S, 23, NUMBERS);
        c.rule(S, 25, 1);
        c.rule(S, 0, 0);
        c.due(false).judge(S, r);
        c.due(0).marks(NUMBERS, TEXT);
        int m = c.members(0, NUMBER, 11, NUMBER);
        c.named(T, 34, 0, NO);
        c.named(T, 34, 11, U);
        c.due(false).judge(T, m);
        c.due(0).marks(U, m);
    }

    /** The same three count once, however often they come; another value, schema or keyword is another fault. */
    private static void oneFaultOfThree() {
        Calls c = world();
        int r = c.row(TEXT, TEXT, TEXT, TEXT, TEXT, TEXT, TEXT, TEXT);
        c.rule(S, 22, NUMBERS);
        c.rule(S, 23, NUMBERS);
        c.due(false).judge(S, r);
        c.allFaults(Calls.code(TEXT, NUMBERS, 0), Calls.code(r, S, 22), Calls.code(r, S, 23));
        int equal = c.letters("a");
        int both = c.row(TEXT, equal);
        c.due(false).judge(S, both);
        c.allFaults(Calls.code(TEXT, NUMBERS, 0), Calls.code(equal, NUMBERS, 0), Calls.code(both, S, 22),
            Calls.code(both, S, 23));
        int m = c.members(0, TEXT, 1, TEXT, 11, NUMBER);
        for (int name = 0; name < 12; name++) {
            c.named(T, 33, name, NUMBERS);
            c.named(T, 34, name, NO);
            c.named(T, 35, name, 4095);
        }
        c.due(false).judge(T, m);
        c.allFaults(Calls.code(TEXT, NUMBERS, 0), Calls.code(m, NO, 0), Calls.code(m, T, 33), Calls.code(m, T, 34),
            Calls.code(m, T, 35));
    }

    private static void judgeOfNone() {
        Calls c = world();
        c.due(false).judge(NO, TEXT);
        for (int s : new int[] {-1, SCHEMAS, 24}) {
            c.due(Calls.ARGUMENT).judge(s, 0);
        }
        for (int v : new int[] {-1, FIRST_OWN, 40}) {
            c.due(Calls.ARGUMENT).judge(0, v);
        }
        for (int far : FAR) {
            c.due(Calls.ARGUMENT).judge(far, 0);
            c.due(Calls.ARGUMENT).judge(0, far);
        }
        c.rule(S, 21, S);
        c.due(Calls.ARGUMENT).judge(S, FIRST_OWN);
        c.due(true).judge(SCHEMAS - 1, FIRST_OWN - 1);
        Calls full = new Calls();
        full.schemas(24);
        for (int v = 0; v < 40; v++) {
            full.make(Calls.NOTHING);
        }
        full.due(true).judge(23, 39);
        full.due(Calls.ARGUMENT).judge(24, 39);
        full.due(Calls.ARGUMENT).judge(23, 40);
    }

    /** To itself, and to itself over another one; whether or not the keyword is judged. */
    private static void leadsInPlace() {
        for (int keyword : IN_PLACE) {
            Calls c = world();
            c.says(S, keyword, S);
            c.due(Calls.STATE).judge(S, NUMBER);
            Calls over = world();
            over.says(S, keyword, T);
            over.due(keyword != 17).judge(S, NUMBER);
            over.rule(T, 21, S);
            over.due(Calls.STATE).judge(S, NUMBER);
            over.due(Calls.STATE).judge(T, NUMBER);
        }
        for (int name = 0; name < 12; name++) {
            Calls c = world();
            c.named(S, 34, name, S);
            c.due(Calls.STATE).judge(S, NUMBER);
        }
        for (int place = 0; place < 12; place++) {
            Calls c = world();
            for (int k = 0; k < 3; k++) {
                c.list(S, 29 + place / 3, k == place % 3 ? T : YES);
            }
            c.rule(T, 21, T);
            // The last ones are of PREFIX, which leads elsewhere, but to the circle all the same.
            c.due(Calls.STATE).judge(S, NUMBER);
        }
    }

    /** To itself elsewhere is no circle, but such a keyword leads to circles. */
    private static void leadsElsewhere() {
        for (int keyword : ELSEWHERE) {
            Calls c = world();
            c.says(S, keyword, S);
            c.due(true).judge(S, NUMBER);
            c.says(T, keyword, U);
            c.due(true).judge(T, NUMBER);
            c.rule(U, 21, U);
            c.due(Calls.STATE).judge(T, NUMBER);
            c.due(true).judge(S, NUMBER);
            Calls mixed = world();
            mixed.rule(S, 21, T);
            mixed.says(T, keyword, S);
            mixed.due(true).judge(S, NUMBER);
            mixed.due(true).judge(T, NUMBER);
        }
        Calls numbers = world();
        numbers.rule(S, 24, S);
        numbers.rule(S, 25, S);
        numbers.rule(S, 16, S);
        numbers.named(S, 35, 0, S);
        numbers.due(true).judge(S, NUMBER);
    }

    private static void itself() {
        Calls c = world();
        c.rule(S, 21, S);
        c.due(Calls.STATE).judge(S, NUMBER);
        c.due(true).judge(T, NUMBER);
        c.rule(S, 21, -1);
        c.due(true).judge(S, NUMBER);
        Calls first = new Calls();
        first.make(Calls.NOTHING);
        first.schemas(24);
        first.rule(0, 17, 0);
        first.rule(23, 17, 23);
        first.due(Calls.STATE).judge(0, 0);
        first.due(Calls.STATE).judge(23, 0);
        first.due(true).judge(22, 0);
    }

    /** Circles of one to all 24 schemas, from each of them. */
    private static void circleOverOthers() {
        for (int length = 1; length <= 24; length++) {
            Calls c = new Calls();
            c.make(Calls.NOTHING);
            c.schemas(24);
            for (int n = 0; n < length - 1; n++) {
                c.rule(5 * n % 24, 21, 5 * (n + 1) % 24);
            }
            c.due(true).judge(0, 0);
            c.rule(5 * (length - 1) % 24, 21, 0);
            for (int n = 0; n < 24; n++) {
                c.due(n < length ? (Object) Calls.STATE : true).judge(5 * n % 24, 0);
            }
        }
    }

    /** The circle of the last schema is found from each one that leads to it, elsewhere, and from no other one. */
    private static void wayToTheCircle() {
        Calls c = new Calls();
        c.make(Calls.NOTHING);
        c.schemas(24);
        for (int n = 0; n < 22; n++) {
            c.rule((7 * n + 5) % 24, ELSEWHERE[n % 5], (7 * n + 12) % 24);
        }
        c.due(true).judge(5, 0);
        int last = (7 * 22 + 5) % 24;
        c.rule(last, 20, last);
        for (int n = 0; n <= 22; n++) {
            c.due(Calls.STATE).judge((7 * n + 5) % 24, 0);
        }
        c.due(true).judge((7 * 23 + 5) % 24, 0);
    }

    private static void chainOfThirty() {
        Calls c = tower(32);
        c.rule(S, 22, S);
        for (int length = 1; length <= 32; length++) {
            int v = FIRST_OWN + length - 1;
            c.due(length <= 30 ? (Object) true : Calls.UNSUPPORTED).judge(S, v);
            c.due(length == 1 ? 0 : length <= 30 ? 1 : -1).marks(S, v);
        }
    }

    /** Each of the values is judged by three schemas in place: the chain has thrice as many pairs as values. */
    private static void pairsInPlaceAndElsewhere() {
        Calls c = tower(12);
        c.rule(S, 21, T);
        c.list(T, 29, U);
        c.rule(U, 28, S);
        c.due(true).judge(S, FIRST_OWN + 9);
        c.due(Calls.UNSUPPORTED).judge(U, FIRST_OWN + 10);
        c.due(true).judge(T, FIRST_OWN + 9);
        c.due(Calls.UNSUPPORTED).judge(T, FIRST_OWN + 10);
        // Pairs beside the chain do not make it longer, and one at its end does.
        c.rule(S, 17, NO);
        c.rule(S, 18, YES);
        c.due(true).judge(S, FIRST_OWN + 9);
        c.rule(U, 21, YES);
        c.due(Calls.UNSUPPORTED).judge(S, FIRST_OWN + 9);
        c.due(true).judge(T, FIRST_OWN + 9);
    }

    private static void fromThisOneOn() {
        Calls c = tower(35);
        c.rule(S, 22, S);
        c.due(Calls.UNSUPPORTED).judge(S, FIRST_OWN + 34);
        c.due(true).judge(S, FIRST_OWN + 29);
        c.due(Calls.UNSUPPORTED).judge(S, FIRST_OWN + 30);
        c.due(true).judge(YES, FIRST_OWN + 34);
        c.rule(T, 21, S);
        c.due(Calls.UNSUPPORTED).judge(T, FIRST_OWN + 29);
        c.due(true).judge(T, FIRST_OWN + 28);
    }

    /** What is not judged is no part of a chain; a pair judged before, by a shorter way, is one. */
    private static void onlyWhatIsAskedFor() {
        Calls c = tower(34);
        int v = FIRST_OWN + 33;
        c.rule(S, 22, S);
        c.rule(T, 19, S);
        c.due(true).judge(T, v);
        c.rule(T, 18, NO);
        c.due(true).judge(T, v);
        c.rule(T, 18, YES);
        c.due(Calls.UNSUPPORTED).judge(T, v);
        c.rule(T, 19, -1);
        c.rule(T, 28, S);
        c.due(Calls.UNSUPPORTED).judge(T, v);
        c.list(T, 32, YES);
        c.due(true).judge(T, v);
        c.named(T, 34, 0, S);
        c.due(true).judge(T, v);
        int long30 = FIRST_OWN + 28;
        c.list(U, 29, S);
        c.due(true).judge(U, long30);
        c.rule(NUMBERS, 0, -1);
        c.rule(NUMBERS, 21, S);
        c.list(U, 29, NUMBERS);
        c.due(Calls.UNSUPPORTED).judge(U, long30);
        c.due(true).judge(U, long30 - 1);
    }

    private static void nothingCounts(Calls c) {
        c.due(0).faults();
        c.due(Calls.INDEX).fault(0);
        for (int s = 0; s < SCHEMAS; s++) {
            for (int v = 0; v <= FIRST_OWN; v++) {
                c.due(-1).marks(s, v);
            }
        }
    }

    private static void nothingAfterCircle() {
        Calls c = world();
        int r = c.row(TEXT);
        c.rule(S, 22, NO);
        c.due(false).judge(S, r);
        c.due(2).faults();
        c.rule(T, 22, U);
        c.rule(T, 0, 0);
        c.rule(U, 18, U);
        c.due(Calls.STATE).judge(T, r);
        nothingCounts(c);
        c.due(false).judge(S, r);
        c.allFaults(Calls.code(TEXT, NO, 0), Calls.code(r, S, 22));
    }

    private static void nothingAfterChain() {
        Calls c = tower(32);
        c.rule(S, 22, S);
        c.rule(S, 0, 0);
        c.due(false).judge(S, FIRST_OWN + 1);
        c.due(3).faults();
        c.due(Calls.UNSUPPORTED).judge(S, FIRST_OWN + 30);
        nothingCounts(c);
        for (int v = FIRST_OWN; v < FIRST_OWN + 32; v++) {
            c.due(-1).marks(S, v);
        }
        c.due(false).judge(S, FIRST_OWN + 29);
        c.due(59).faults();
    }

    private static void bitsOfElements() {
        Calls c = world();
        for (int place = 0; place < 8; place++) {
            c.rule(S, 23, T);
            c.rule(T, 0, 8);
            int r = numbersBut(c, 8, place);
            c.due(true).judge(S, r);
            c.due(1 << place).marks(S, r);
        }
        int full = numbersBut(c, 8, -1);
        c.rule(S, 23, NUMBERS);
        c.due(true).judge(S, full);
        c.due(255).marks(S, full);
    }

    private static void bitsOfNames() {
        Calls c = world();
        int all = c.members();
        for (int name = 0; name < 12; name++) {
            c.put(all, name, NUMBER);
            c.named(S, 33, name, YES);
            int one = c.members(name, NUMBER);
            c.due(true).judge(S, one);
            c.due(1 << name).marks(S, one);
        }
        c.due(true).judge(S, all);
        c.due(4095).marks(S, all);
    }

    /** Neither another value by that schema nor that value by another one; 0 if it was judged and has no marks. */
    private static void notJudged() {
        Calls c = world();
        int r = c.row(NUMBER);
        c.due(-1).marks(S, r);
        c.rule(S, 22, T);
        c.due(true).judge(S, r);
        for (int s = 0; s < SCHEMAS; s++) {
            for (int v = 0; v <= r; v++) {
                c.due(s == S && v == r ? 1 : s == T && v == NUMBER ? 0 : -1).marks(s, v);
            }
        }
        int later = c.schema();
        int value = c.make(Calls.NOTHING);
        c.due(-1).marks(later, r);
        c.due(-1).marks(S, value);
    }

    private static void marksOfTheLatest() {
        Calls c = world();
        int r = c.row(NUMBER, NUMBER);
        c.rule(S, 22, T);
        c.due(true).judge(S, r);
        c.due(true).judge(YES, TEXT);
        c.due(-1).marks(S, r);
        c.due(-1).marks(T, NUMBER);
        c.due(0).marks(YES, TEXT);
        c.due(true).judge(S, r);
        c.due(Calls.ARGUMENT).judge(S, r + 1);
        c.due(3).marks(S, r);
        c.rule(S, 0, 0);
        c.push(r, NUMBER);
        c.due(3).marks(S, r);
        c.due(false).judge(S, r);
        c.due(0).marks(S, r);
    }

    private static void marksOfNone() {
        Calls c = world();
        c.due(true).judge(YES, 0);
        for (int s : new int[] {-1, SCHEMAS, 24}) {
            c.due(Calls.ARGUMENT).marks(s, 0);
        }
        for (int v : new int[] {-1, FIRST_OWN, 40}) {
            c.due(Calls.ARGUMENT).marks(0, v);
        }
        for (int far : FAR) {
            c.due(Calls.ARGUMENT).marks(far, 0);
            c.due(Calls.ARGUMENT).marks(0, far);
        }
        Calls full = new Calls();
        full.schemas(24);
        for (int v = 0; v < 40; v++) {
            full.make(Calls.NOTHING);
        }
        full.due(true).judge(23, 39);
        full.due(0).marks(23, 39);
        full.due(Calls.ARGUMENT).marks(24, 38);
        full.due(Calls.ARGUMENT).marks(23, 40);
        full.due(Calls.ARGUMENT).marks(-1, 39);
    }

    /** From none to very many: 24 schemas in place, all of which fail, for eight elements. */
    private static void countOfFaults() {
        Calls c = new Calls();
        c.schemas(24);
        for (int v = 0; v < 8; v++) {
            c.make(Calls.NOTHING);
        }
        int r = c.row(0, 1, 2, 3, 4, 5, 6, 7);
        c.rule(23, 22, 0);
        c.due(true).judge(23, r);
        c.due(0).faults();
        for (int s = 0; s < 22; s++) {
            c.rule(s, 21, s + 1);
        }
        c.rule(22, 0, 2);
        c.due(false).judge(23, r);
        c.due(8 * 23 + 1).faults();
        for (int s = 0; s < 23; s++) {
            c.rule(s, 0, 2);
            c.rule(s, 1, r);
        }
        c.due(false).judge(23, r);
        c.due(8 * (3 * 23 - 1) + 1).faults();
        c.due(Calls.code(7, 22, 1)).fault(8 * 68 - 1);
        c.due(Calls.code(r, 23, 22)).fault(8 * 68);
        c.due(Calls.INDEX).fault(8 * 68 + 1);
    }

    private static void faultsOfTheLatest() {
        Calls c = world();
        c.due(0).faults();
        c.due(false).judge(NO, TEXT);
        c.due(1).faults();
        c.due(Calls.ARGUMENT).judge(NO, 40);
        c.due(1).faults();
        c.rule(NO, 0, -1);
        c.due(1).faults();
        c.due(true).judge(NO, TEXT);
        c.due(0).faults();
        c.due(Calls.INDEX).fault(0);
    }

    /** Not as they stand in the row, nor by their schemas first. */
    private static void orderOfValues() {
        Calls c = world();
        int last = c.make(Calls.NOTHING);
        int r = c.row(last, TEXT, NUMBER, 1, 0);
        c.rule(S, 22, NO);
        c.due(false).judge(S, r);
        c.allFaults(Calls.code(0, NO, 0), Calls.code(1, NO, 0), Calls.code(NUMBER, NO, 0), Calls.code(TEXT, NO, 0),
            Calls.code(last, NO, 0), Calls.code(r, S, 22));
        c.rule(YES, 23, U);
        c.rule(U, 0, 0);
        int outer = c.row(NUMBER);
        c.due(false).judge(YES, outer);
        c.allFaults(Calls.code(NUMBER, U, 0), Calls.code(outer, YES, 23));
    }

    private static void orderOfSchemas() {
        Calls c = new Calls();
        c.make(Calls.NOTHING);
        c.schemas(24);
        for (int s = 0; s < 24; s++) {
            c.rule(s, 0, 2);
        }
        c.list(11, 30, 23);
        c.list(11, 30, 0);
        c.list(11, 30, 12);
        c.due(false).judge(11, 0);
        c.allFaults(0, 1100, 1130, 1200, 2300);
    }

    private static void orderOfKeywords() {
        Calls c = world();
        int v = c.members(0, NUMBER);
        c.named(S, 35, 0, 4095);
        c.list(S, 31, NO);
        c.rule(S, 16, 4095);
        c.rule(S, 0, 0);
        c.due(false).judge(S, v);
        int first = Calls.code(v, S, 0);
        c.allFaults(Calls.code(v, NO, 0), first, first + 16, first + 31, first + 35);
    }

    private static void leastAndGreatestFault() {
        Calls c = new Calls();
        c.schemas(24);
        for (int v = 0; v < 39; v++) {
            c.make(Calls.NOTHING);
        }
        c.members(0, 38);
        c.rule(0, 0, 2);
        c.due(false).judge(0, 0);
        c.allFaults(0);
        c.named(23, 35, 0, 4095);
        c.due(false).judge(23, 39);
        c.allFaults(392335);
        c.rule(1, 0, 2);
        c.due(false).judge(1, 0);
        c.allFaults(100);
        c.due(false).judge(0, 1);
        c.allFaults(10000);
    }

    private static void noSuchFault() {
        Calls c = world();
        int r = c.row(TEXT);
        c.rule(S, 22, NO);
        c.due(false).judge(S, r);
        c.due(2).faults();
        for (int i : new int[] {-1, -2, 2, 3, 100}) {
            c.due(Calls.INDEX).fault(i);
        }
        for (int far : FAR) {
            c.due(Calls.INDEX).fault(far);
        }
        c.due(Calls.code(TEXT, NO, 0)).fault(0);
        c.due(Calls.code(r, S, 22)).fault(1);
        c.due(true).judge(YES, r);
        for (int i = -1; i <= 1; i++) {
            c.due(Calls.INDEX).fault(i);
        }
    }

    /** Each method of the face as the 512th call, behind refused and taken ones: it answers as it would as the first. */
    private static void theLastCall() {
        for (int which = 0; which < 20; which++) {
            Calls c = world();
            int r = c.row(TEXT, NUMBER);
            int m = c.members();
            c.rule(S, 22, NUMBERS);
            c.rule(T, 21, T);
            while (c.made() < Calls.MOST_CALLS - 2) {
                spend(c, r);
            }
            c.due(false).judge(S, r);
            lastOf(c, which, r, m);
            Check.due("calls made", c.made(), Calls.MOST_CALLS);
        }
    }

    private static void spend(Calls c, int r) {
        switch (c.made() % 9) {
            case 0:
                c.due(Calls.ARGUMENT).make(3);
                break;
            case 1:
                c.due(Calls.ARGUMENT).push(r, r);
                break;
            case 2:
                c.due(Calls.ARGUMENT).item(8, 0, 0);
                break;
            case 3:
                c.due(Calls.ARGUMENT).rule(S, 29, 0);
                break;
            case 4:
                c.due(Calls.INDEX).fault(2);
                break;
            case 5:
                c.due(true).equal(r, r);
                break;
            case 6:
                c.due(Calls.STATE).judge(T, r);
                break;
            default:
                c.due(false).judge(S, r);
                break;
        }
    }

    private static void lastOf(Calls c, int which, int r, int m) {
        switch (which) {
            case 0 -> c.due(m + 1).make(Calls.ROW);
            case 1 -> c.due(m + 1).truth(true);
            case 2 -> c.due(m + 1).number(99999, 3);
            case 3 -> c.due(m + 1).text(390624);
            case 4 -> c.due(3).push(r, 0);
            case 5 -> c.due(Calls.TAKEN).put(m, 11, r);
            case 6 -> c.due(1).item(7, 15, 3);
            case 7 -> c.due(Calls.TAKEN).bind(7, true, true);
            case 8 -> c.due(SCHEMAS).schema();
            case 9 -> c.due(Calls.TAKEN).rule(S, 28, U);
            case 10 -> c.due(1).list(S, 32, U);
            case 11 -> c.due(Calls.TAKEN).named(S, 35, 11, 4095);
            case 12 -> c.due(false).judge(S, r);
            case 13 -> c.due(true).judge(U, m);
            case 14 -> c.due(0).marks(S, r);
            case 15 -> c.due(2).faults();
            case 16 -> c.due(Calls.code(r, S, 22)).fault(1);
            case 17 -> c.due(false).equal(r, m);
            case 18 -> c.due(Calls.STATE).judge(T, m);
            default -> c.due(Calls.ARGUMENT).text(5);
        }
    }
}
