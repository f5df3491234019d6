/** Promises 1 to 7 and 18 and the terms of values: a test for each sentence that names a boundary case. */
public final class ValueBoundsTest {
    private static final int[] FAR = {-1, Integer.MIN_VALUE, Integer.MAX_VALUE};

    public static void main(String[] args) {
        newObject();
        making();
        parts();
        equal();
        Check.end();
    }

    private static void newObject() {
        Check.sentence("1: No values", ValueBoundsTest::noValues);
        Check.sentence("1: no schemas", ValueBoundsTest::noSchemas);
        Check.sentence("1: patterns without items", ValueBoundsTest::patternsWithoutItems);
        Check.sentence("1: not bound", ValueBoundsTest::patternsNotBound);
        Check.sentence("1: nothing was judged", ValueBoundsTest::nothingWasJudged);
    }

    private static void making() {
        Check.sentence("Terms: VALUES are numbered 0, 1, .. as they are made", ValueBoundsTest::numberedAsMade);
        Check.sentence("Terms: VALUES at most 40", ValueBoundsTest::fortyOfEachSort);
        Check.sentence("2: A new value of kind 0, 4 or 5", ValueBoundsTest::threeKinds);
        Check.sentence("2: IllegalArgumentException: another kind", ValueBoundsTest::anotherKind);
        Check.sentence("2: IllegalStateException: there are 40", ValueBoundsTest::makeWhenFull);
        Check.sentence("3: IllegalStateException as in make", ValueBoundsTest::truthWhenFull);
        Check.sentence("4: m is not -99999 .. 99999", ValueBoundsTest::rangeOfM);
        Check.sentence("4: or e not -3 .. 3", ValueBoundsTest::rangeOfE);
        Check.sentence("4: IllegalStateException likewise", ValueBoundsTest::numberWhenFull);
        Check.sentence("Terms: NUMBER, m * 10^e", ValueBoundsTest::numbersDoNotWrap);
        Check.sentence("5: IllegalArgumentException: t is none", ValueBoundsTest::eachText);
        Check.sentence("5: IllegalStateException likewise", ValueBoundsTest::textWhenFull);
        Check.sentence("Terms: TEXT of at most 8 letters", ValueBoundsTest::eightLetters);
        Check.sentence("Terms: the lowest one for the first letter", ValueBoundsTest::lowestDigitFirst);
        Check.sentence("Terms: no digit 0 below another one", ValueBoundsTest::noDigitZero);
    }

    private static void parts() {
        Check.sentence("6: how many it has", ValueBoundsTest::pushCounts);
        Check.sentence("6: r is no row", ValueBoundsTest::pushToNoRow);
        Check.sentence("6: or v not 0 .. r - 1", ValueBoundsTest::pushOfNoLesser);
        Check.sentence("6: IllegalStateException: it has 8", ValueBoundsTest::pushWhenFull);
        Check.sentence("Terms: ROW of at most 8 elements", ValueBoundsTest::eightElements);
        Check.sentence("7: in the place of one that there was", ValueBoundsTest::putInThePlace);
        Check.sentence("7: r is none of kind MEMBERS", ValueBoundsTest::putToNoMembers);
        Check.sentence("7: the name is not 0 .. 11", ValueBoundsTest::putOfNoName);
        Check.sentence("7: or v not 0 .. r - 1", ValueBoundsTest::putOfNoLesser);
        Check.sentence("Terms: MEMBERS, each with a name 0 .. 11 of its own", ValueBoundsTest::twelveNames);
        Check.sentence("Terms: Elements and members are values with a lesser number", ValueBoundsTest::lesserNumbers);
    }

    private static void equal() {
        Check.sentence("Terms: EQUAL if they are of the same kind", ValueBoundsTest::sameKind);
        Check.sentence("Terms: the same truth", ValueBoundsTest::sameTruth);
        Check.sentence("Terms: numbers of the same size", ValueBoundsTest::sameSize);
        Check.sentence("Terms: the same letters", ValueBoundsTest::sameLetters);
        Check.sentence("Terms: rows as long", ValueBoundsTest::rowsAsLong);
        Check.sentence("Terms: with equal elements one by one", ValueBoundsTest::elementsOneByOne);
        Check.sentence("Terms: members of the same names", ValueBoundsTest::sameNames);
        Check.sentence("Terms: equal name by name", ValueBoundsTest::nameByName);
        Check.sentence("18: IllegalArgumentException: there is no such value", ValueBoundsTest::equalOfNoValue);
    }

    private static void noValues() {
        Calls c = new Calls();
        c.due(Calls.ARGUMENT).equal(0, 0);
        c.due(Calls.ARGUMENT).push(0, 0);
        c.due(Calls.ARGUMENT).put(0, 0, 0);
        c.schema();
        c.due(Calls.ARGUMENT).judge(0, 0);
        c.due(Calls.ARGUMENT).marks(0, 0);
        for (int keyword = 1; keyword <= 7; keyword++) {
            c.due(Calls.ARGUMENT).rule(0, keyword, 0);
        }
        c.due(0).make(Calls.NOTHING);
    }

    private static void noSchemas() {
        Calls c = new Calls();
        c.make(Calls.NOTHING);
        c.due(Calls.ARGUMENT).rule(0, 0, 0);
        c.due(Calls.ARGUMENT).rule(0, 0, -1);
        c.due(Calls.ARGUMENT).list(0, 29, 0);
        c.due(Calls.ARGUMENT).named(0, 33, 0, -1);
        c.due(Calls.ARGUMENT).judge(0, 0);
        c.due(Calls.ARGUMENT).marks(0, 0);
        c.due(0).schema();
    }

    private static void patternsWithoutItems() {
        Calls used = new Calls();
        for (int p = 0; p < 8; p++) {
            used.item(p, 0, 0);
        }
        for (int p = 0; p < 8; p++) {
            Calls c = new Calls();
            c.letters("");
            c.letters("abcdabcd");
            c.schema();
            c.rule(0, 10, p);
            c.due(true).judge(0, 0);
            c.due(true).judge(0, 1);
            c.due(1).item(p, 1, 0);
        }
    }

    private static void patternsNotBound() {
        for (int p = 0; p < 8; p++) {
            Calls c = new Calls();
            c.letters("abc");
            c.schema();
            c.rule(0, 10, p);
            c.item(p, 2, 0);
            c.due(true).judge(0, 0);
        }
    }

    private static void nothingWasJudged() {
        Calls c = new Calls();
        c.due(0).faults();
        c.due(Calls.INDEX).fault(0);
        c.due(Calls.INDEX).fault(-1);
        c.make(Calls.NOTHING);
        c.schema();
        c.due(-1).marks(0, 0);
        c.due(0).faults();
    }

    private static void numberedAsMade() {
        Calls c = new Calls();
        c.due(0).text(0);
        c.due(Calls.ARGUMENT).make(1);
        c.due(1).number(0, 0);
        c.due(Calls.ARGUMENT).number(0, 4);
        c.due(2).truth(false);
        c.due(Calls.ARGUMENT).text(5);
        c.due(3).make(5);
        c.due(0).schema();
        c.due(4).make(4);
        c.due(5).make(0);
    }

    /** One more value of a sort 0 .. 5, whatever is due of it. */
    private static int ofSort(Calls c, int sort) {
        switch (sort) {
            case Calls.TRUTH:
                return c.truth(true);
            case Calls.NUMBER:
                return c.number(1, 0);
            case Calls.TEXT:
                return c.text(1);
            default:
                return c.make(sort);
        }
    }

    private static Calls fortyOf(int sort) {
        Calls c = new Calls();
        for (int v = 0; v < 40; v++) {
            ofSort(c.due(v), sort);
        }
        return c;
    }

    private static void fortyOfEachSort() {
        for (int sort = 0; sort < 6; sort++) {
            Calls c = fortyOf(sort);
            for (int other = 0; other < 6; other++) {
                ofSort(c.due(Calls.STATE), other);
            }
            c.due(true).equal(0, 39);
            c.due(Calls.ARGUMENT).equal(0, 40);
        }
    }

    private static void threeKinds() {
        Calls c = new Calls();
        c.due(0).make(0);
        c.due(1).make(4);
        c.due(2).make(5);
        c.schema();
        int[] bits = {1, 16, 32};
        for (int v = 0; v < 3; v++) {
            c.rule(0, 0, bits[v]);
            for (int w = 0; w < 3; w++) {
                c.due(v == w).judge(0, w);
            }
        }
    }

    private static void anotherKind() {
        Calls c = new Calls();
        for (int kind : new int[] {1, 2, 3, 6, 7, 32, 36, 64, 256, -4, -5}) {
            c.due(Calls.ARGUMENT).make(kind);
        }
        for (int kind : FAR) {
            c.due(Calls.ARGUMENT).make(kind);
        }
        c.due(0).make(0);
        Calls full = fortyOf(Calls.NOTHING);
        full.due(Calls.ARGUMENT).make(3);
    }

    private static void makeWhenFull() {
        Calls c = fortyOf(Calls.ROW);
        for (int kind : new int[] {0, 4, 5}) {
            c.due(Calls.STATE).make(kind);
        }
        c.due(1).push(39, 38);
        c.due(false).equal(39, 38);
        c.due(Calls.STATE).make(4);
    }

    private static void truthWhenFull() {
        Calls c = fortyOf(Calls.NOTHING);
        c.due(Calls.STATE).truth(true);
        c.due(Calls.STATE).truth(false);
        Calls almost = new Calls();
        for (int v = 0; v < 39; v++) {
            almost.make(Calls.NOTHING);
        }
        almost.due(39).truth(true);
        almost.due(Calls.STATE).truth(true);
    }

    private static void rangeOfM() {
        Calls c = new Calls();
        int made = 0;
        for (int e = -3; e <= 3; e++) {
            c.due(made++).number(99999, e);
            c.due(made++).number(-99999, e);
            c.due(Calls.ARGUMENT).number(100000, e);
            c.due(Calls.ARGUMENT).number(-100000, e);
            c.due(Calls.ARGUMENT).number(Integer.MAX_VALUE, e);
            c.due(Calls.ARGUMENT).number(Integer.MIN_VALUE, e);
        }
        c.due(made).number(0, 0);
    }

    private static void rangeOfE() {
        Calls c = new Calls();
        int made = 0;
        for (int m : new int[] {0, 1, -1, 99999, -99999}) {
            c.due(made++).number(m, 3);
            c.due(made++).number(m, -3);
            c.due(Calls.ARGUMENT).number(m, 4);
            c.due(Calls.ARGUMENT).number(m, -4);
            c.due(Calls.ARGUMENT).number(m, Integer.MAX_VALUE);
            c.due(Calls.ARGUMENT).number(m, Integer.MIN_VALUE);
        }
        c.due(made).number(0, 0);
    }

    private static void numberWhenFull() {
        Calls c = fortyOf(Calls.NUMBER);
        c.due(Calls.STATE).number(0, 0);
        c.due(Calls.STATE).number(99999, 3);
        c.due(Calls.ARGUMENT).number(100000, 3);
        c.due(Calls.ARGUMENT).number(99999, 4);
    }

    /** 4295000 and 32.704 differ by 2^32 thousandths, and 3000000 is above 2^31 of them. */
    private static void numbersDoNotWrap() {
        Calls c = new Calls();
        c.number(4295, 3);
        c.number(32704, -3);
        c.number(3000, 3);
        c.number(-3000, 3);
        c.number(0, 0);
        c.number(99999, 3);
        c.number(-99999, 3);
        c.due(false).equal(0, 1);
        c.schema();
        c.rule(0, 4, 1);
        c.due(false).judge(0, 0);
        c.rule(0, 4, -1);
        c.rule(0, 3, 4);
        c.due(true).judge(0, 2);
        c.due(false).judge(0, 3);
        c.due(true).judge(0, 5);
        c.due(false).judge(0, 6);
        c.rule(0, 3, -1);
        c.rule(0, 7, 1);
        c.due(false).judge(0, 0);
    }

    /** All numbers that could tell a text, and some beyond them. */
    private static void eachText() {
        Calls c = new Calls();
        int made = 0;
        for (int t = -30; t < 400000; t++) {
            boolean told = t == 0 || t > 0 && Integer.toString(t, 5).matches("[1-4]{1,8}");
            c.due(told ? (Object) made : Calls.ARGUMENT).text(t);
            made += told ? 1 : 0;
            if (made == 40 || c.isUsedUp(10)) {
                c = new Calls();
                made = 0;
            }
        }
        for (int t : new int[] {488281, 1953124, Integer.MAX_VALUE, Integer.MIN_VALUE}) {
            c.due(Calls.ARGUMENT).text(t);
        }
    }

    private static void textWhenFull() {
        Calls c = fortyOf(Calls.TEXT);
        c.due(Calls.STATE).text(0);
        c.due(Calls.STATE).text(390624);
        c.due(Calls.ARGUMENT).text(390625);
        c.due(Calls.ARGUMENT).text(5);
    }

    private static void eightLetters() {
        Calls c = new Calls();
        c.schema();
        int least = 0;
        int most = 0;
        for (int length = 0; length <= 8; length++) {
            c.rule(0, 8, length);
            c.rule(0, 9, length);
            int lowest = c.text(least);
            int highest = c.text(most);
            c.due(true).judge(0, lowest);
            c.due(true).judge(0, highest);
            least = 5 * least + 1;
            most = 5 * most + 4;
        }
        c.due(Calls.ARGUMENT).text(least);
        c.due(Calls.ARGUMENT).text(most);
    }

    /** 7 = 12 to the base of 5: b, then a. */
    private static void lowestDigitFirst() {
        Calls c = new Calls();
        c.text(7);
        c.schema();
        c.rule(0, 10, 0);
        c.bind(0, true, false);
        c.item(0, 2, 0);
        c.due(true).judge(0, 0);
        c.item(0, 1, 0);
        c.due(true).judge(0, 0);
        c.rule(0, 10, 1);
        c.bind(1, true, false);
        c.item(1, 1, 0);
        c.due(false).judge(0, 0);
    }

    /** A 0 as the lowest digit, in the middle, and as the last but one of eight. */
    private static void noDigitZero() {
        Calls c = new Calls();
        for (int t : new int[] {5, 10, 20, 25, 26, 27, 30, 125, 126, 131, 78125, 78126, 312500, 97651}) {
            c.due(Calls.ARGUMENT).text(t);
        }
        c.due(0).text(0);
        c.due(1).text(6);
        c.due(2).text(31);
    }

    private static void pushCounts() {
        Calls c = new Calls();
        c.make(Calls.NOTHING);
        c.make(Calls.ROW);
        c.make(Calls.ROW);
        for (int n = 1; n <= 8; n++) {
            c.due(n).push(2, n % 2);
            if (n < 4) {
                c.due(n).push(1, 0);
            }
        }
    }

    private static void pushToNoRow() {
        Calls c = new Calls();
        for (int sort = 0; sort < 6; sort++) {
            ofSort(c, sort);
        }
        c.members(0, 0);
        for (int r : new int[] {1, 2, 3, 5, 6, 7, 39, 40, Integer.MAX_VALUE, Integer.MIN_VALUE, -1}) {
            c.due(Calls.ARGUMENT).push(r, 0);
        }
        c.due(1).push(4, 0);
    }

    private static void pushOfNoLesser() {
        Calls c = new Calls();
        c.make(Calls.ROW);
        c.due(Calls.ARGUMENT).push(0, 0);
        c.due(Calls.ARGUMENT).push(0, -1);
        c.make(Calls.ROW);
        c.make(Calls.ROW);
        c.make(Calls.NOTHING);
        for (int v : new int[] {2, 3, 4, 40, -1, Integer.MIN_VALUE, Integer.MAX_VALUE}) {
            c.due(Calls.ARGUMENT).push(2, v);
        }
        c.due(1).push(2, 1);
        c.due(2).push(2, 0);
    }

    private static void pushWhenFull() {
        Calls c = new Calls();
        c.make(Calls.NOTHING);
        int r = c.row(0, 0, 0, 0, 0, 0, 0);
        c.due(8).push(r, 0);
        c.due(Calls.STATE).push(r, 0);
        c.due(Calls.STATE).push(r, 0);
        c.due(Calls.ARGUMENT).push(r, r);
        c.due(Calls.ARGUMENT).push(r, -1);
        int other = c.make(Calls.ROW);
        c.due(1).push(other, 0);
    }

    /** A ninth element that is refused is not there, and the eighth one is. */
    private static void eightElements() {
        Calls c = new Calls();
        c.truth(true);
        c.truth(false);
        int r = c.row(0, 0, 0, 0, 0, 0, 0, 1);
        int later = c.row(0);
        c.due(Calls.STATE).push(r, 0);
        c.schema();
        c.rule(0, 11, 8);
        c.rule(0, 12, 8);
        c.due(true).judge(0, r);
        c.rule(0, 11, 1);
        c.rule(0, 12, 1);
        c.due(true).judge(0, later);
        c.schema();
        c.schema();
        c.rule(1, 1, 1);
        c.rule(2, 23, 1);
        c.due(true).judge(2, r);
        c.due(128).marks(2, r);
    }

    private static void putInThePlace() {
        Calls c = new Calls();
        c.make(Calls.NOTHING);
        c.truth(true);
        c.schemas(2);
        c.rule(0, 1, 1);
        c.rule(1, 14, 1);
        c.rule(1, 15, 1);
        for (int name = 0; name < 12; name++) {
            int r = c.members(name, 0);
            c.named(1, 33, name, 0);
            c.due(false).judge(1, r);
            c.due(Calls.TAKEN).put(r, name, 1);
            c.due(true).judge(1, r);
            c.put(r, name, 0);
            c.due(false).judge(1, r);
            c.named(1, 33, name, -1);
            c.due(true).judge(1, r);
        }
    }

    private static void putToNoMembers() {
        Calls c = new Calls();
        for (int sort = 0; sort < 6; sort++) {
            ofSort(c, sort);
        }
        c.row(0);
        for (int r : new int[] {1, 2, 3, 4, 6, 7, 39, 40, Integer.MAX_VALUE, Integer.MIN_VALUE, -1}) {
            c.due(Calls.ARGUMENT).put(r, 0, 0);
        }
        c.due(Calls.TAKEN).put(5, 0, 0);
    }

    /** The names 32 and 44 are the bits of 0 and 12 once more. */
    private static void putOfNoName() {
        Calls c = new Calls();
        c.make(Calls.NOTHING);
        c.make(Calls.MEMBERS);
        c.make(Calls.MEMBERS);
        for (int name : new int[] {-1, 12, 13, 24, 31, 32, 44, -12, Integer.MIN_VALUE, Integer.MAX_VALUE}) {
            c.due(Calls.ARGUMENT).put(1, name, 0);
        }
        c.schema();
        c.rule(0, 15, 0);
        c.due(true).judge(0, 1);
        c.due(true).judge(0, 2);
        c.due(Calls.TAKEN).put(1, 0, 0);
        c.due(Calls.TAKEN).put(1, 11, 0);
        c.rule(0, 15, 2);
        c.rule(0, 16, 2049);
        c.due(true).judge(0, 1);
    }

    private static void putOfNoLesser() {
        Calls c = new Calls();
        c.make(Calls.MEMBERS);
        c.due(Calls.ARGUMENT).put(0, 0, 0);
        c.due(Calls.ARGUMENT).put(0, 0, -1);
        c.make(Calls.MEMBERS);
        c.make(Calls.MEMBERS);
        c.make(Calls.NOTHING);
        for (int v : new int[] {2, 3, 4, 40, -1, Integer.MIN_VALUE, Integer.MAX_VALUE}) {
            c.due(Calls.ARGUMENT).put(2, 0, v);
        }
        c.schema();
        c.rule(0, 15, 0);
        c.due(true).judge(0, 2);
        c.due(Calls.TAKEN).put(2, 0, 1);
        c.due(Calls.TAKEN).put(2, 0, 0);
    }

    private static void twelveNames() {
        Calls c = new Calls();
        c.make(Calls.NOTHING);
        int r = c.make(Calls.MEMBERS);
        int later = c.make(Calls.MEMBERS);
        c.schema();
        for (int name = 0; name < 12; name++) {
            c.rule(0, 14, name);
            c.rule(0, 15, name);
            c.due(true).judge(0, r);
            c.due(Calls.TAKEN).put(r, name, 0);
        }
        c.rule(0, 14, 12);
        c.rule(0, 15, 12);
        c.rule(0, 16, 4095);
        c.due(true).judge(0, r);
        c.due(Calls.TAKEN).put(r, 5, 0);
        c.due(true).judge(0, r);
        c.rule(0, 14, 0);
        c.rule(0, 15, 0);
        c.rule(0, 16, 0);
        c.due(true).judge(0, later);
    }

    /** For the last value, too: 38 is lesser than 39, and 39 is not. */
    private static void lesserNumbers() {
        Calls c = new Calls();
        for (int v = 0; v < 38; v++) {
            c.make(Calls.NOTHING);
        }
        c.make(Calls.ROW);
        c.make(Calls.MEMBERS);
        c.due(1).push(38, 37);
        c.due(Calls.ARGUMENT).push(38, 38);
        c.due(Calls.ARGUMENT).push(38, 39);
        c.due(Calls.TAKEN).put(39, 11, 38);
        c.due(Calls.ARGUMENT).put(39, 11, 39);
        c.due(Calls.ARGUMENT).put(39, 11, 40);
    }

    /** The least one of each kind: they hold the same inside, but are of other kinds. */
    private static void sameKind() {
        Calls c = new Calls();
        for (int turn = 0; turn < 2; turn++) {
            c.make(0);
            c.truth(false);
            c.number(0, 0);
            c.text(0);
            c.make(4);
            c.make(5);
        }
        for (int v = 0; v < 12; v++) {
            for (int w = 0; w < 12; w++) {
                c.due(v % 6 == w % 6).equal(v, w);
            }
        }
        c.push(10, 0);
        c.put(11, 0, 0);
        c.due(false).equal(10, 11);
    }

    private static void sameTruth() {
        Calls c = new Calls();
        for (int v = 0; v < 4; v++) {
            c.truth(v % 2 == 0);
        }
        for (int v = 0; v < 4; v++) {
            for (int w = 0; w < 4; w++) {
                c.due(v % 2 == w % 2).equal(v, w);
            }
        }
    }

    private static void sameSize() {
        Calls c = new Calls();
        int[][] same = {{1, 3}, {10, 2}, {100, 1}, {1000, 0}, {10000, -1}};
        int[][] other = {{-1, 3}, {1, 2}, {10, 3}, {99999, -2}, {10001, -1}, {0, 3}, {99999, 3}, {1, -3}};
        for (int[] n : same) {
            c.number(n[0], n[1]);
        }
        for (int[] n : other) {
            c.number(n[0], n[1]);
        }
        for (int v = 0; v < 13; v++) {
            for (int w = 0; w < 13; w++) {
                c.due(v == w || v < 5 && w < 5).equal(v, w);
            }
        }
        c.number(0, -3);
        c.due(true).equal(10, 13);
        c.number(99, 0);
        for (int[] n : new int[][] {{990, -1}, {9900, -2}, {99000, -3}}) {
            int v = c.number(n[0], n[1]);
            int near = c.number(n[0] + 1, n[1]);
            c.due(true).equal(14, v);
            c.due(false).equal(14, near);
        }
    }

    private static void sameLetters() {
        Calls c = new Calls();
        String[] texts = {"", "a", "b", "aa", "ab", "ba", "aaaaaaaa", "aaaaaaab", "baaaaaaa", "aaaaaaa"};
        for (int turn = 0; turn < 2; turn++) {
            for (String text : texts) {
                c.letters(text);
            }
        }
        for (int v = 0; v < 20; v++) {
            for (int w = 0; w < 20; w++) {
                c.due(v % 10 == w % 10).equal(v, w);
            }
        }
    }

    /** All lengths 0 .. 8 of the same element: only rows as long are equal. */
    private static void rowsAsLong() {
        Calls c = new Calls();
        c.make(Calls.NOTHING);
        for (int turn = 0; turn < 2; turn++) {
            for (int length = 0; length <= 8; length++) {
                c.row(new int[length]);
            }
        }
        for (int v = 0; v < 18; v++) {
            for (int w = 0; w < 18; w++) {
                c.due(v % 9 == w % 9).equal(v + 1, w + 1);
            }
        }
    }

    private static void elementsOneByOne() {
        for (int place = 0; place < 8; place++) {
            Calls c = new Calls();
            c.number(1, 0);
            c.number(10, -1);
            c.number(2, 0);
            int[] other = {1, 1, 1, 1, 1, 1, 1, 1};
            int r = c.row(new int[8]);
            int same = c.row(other);
            other[place] = 2;
            int one = c.row(other);
            c.due(true).equal(r, same);
            c.due(true).equal(same, r);
            c.due(false).equal(r, one);
            c.due(false).equal(one, r);
        }
    }

    private static void sameNames() {
        Calls c = new Calls();
        c.make(Calls.NOTHING);
        int none = c.members();
        int again = c.members();
        int all = c.members();
        c.due(true).equal(none, again);
        c.due(true).equal(none, all);
        for (int name = 0; name < 12; name++) {
            int one = c.members(name, 0);
            // The first of these, with name 0, is value 4.
            c.due(name == 0).equal(one, 4);
            c.due(false).equal(none, one);
            c.due(false).equal(one, all);
            c.put(all, name, 0);
            c.due(name == 0).equal(one, all);
        }
        int most = c.members();
        for (int name = 11; name > 0; name--) {
            c.put(most, name, 0);
            c.due(false).equal(most, all);
            c.due(false).equal(all, most);
        }
        c.put(most, 0, 0);
        c.due(true).equal(most, all);
    }

    private static void nameByName() {
        for (int name = 0; name < 12; name++) {
            Calls c = new Calls();
            c.number(1, 0);
            c.number(1000, -3);
            c.number(2, 0);
            int r = c.make(Calls.MEMBERS);
            int same = c.make(Calls.MEMBERS);
            for (int n = 0; n < 12; n++) {
                c.put(r, n, 0);
                c.put(same, 11 - n, 1);
            }
            c.due(true).equal(r, same);
            c.put(same, name, 2);
            c.due(false).equal(r, same);
            c.due(false).equal(same, r);
        }
    }

    private static void equalOfNoValue() {
        Calls c = new Calls();
        c.make(Calls.NOTHING);
        c.make(Calls.NOTHING);
        for (int v : new int[] {-1, 2, 3, 39, 40, Integer.MIN_VALUE, Integer.MAX_VALUE}) {
            c.due(Calls.ARGUMENT).equal(v, 0);
            c.due(Calls.ARGUMENT).equal(1, v);
            c.due(Calls.ARGUMENT).equal(v, v);
        }
        c.due(true).equal(0, 1);
        c.due(true).equal(1, 1);
        Calls full = fortyOf(Calls.NOTHING);
        full.due(Calls.ARGUMENT).equal(40, 39);
        full.due(Calls.ARGUMENT).equal(39, 40);
        full.due(true).equal(39, 39);
    }
}
