import java.util.Arrays;

/** Values of six kinds, and schemas that say which of them are valid. */
public final class SchemaJudge {
    private static final int MOST_MANTISSA = 99999;
    private static final int MOST_EXPONENT = 3;
    /** By exponent, from the least one: a number is held in thousandths. */
    private static final int[] THOUSANDTHS = {1, 10, 100, 1000, 10000, 100000, 1000000};
    private static final int ALL_KINDS = 127;
    private static final int ALL_NAMES = 4095;
    private static final int MOST_COUNT = 12;

    private final Values values;
    private final Patterns patterns;
    private final Schemas schemas;
    private final Judging judging;

    public SchemaJudge() {
        values = new Values();
        patterns = new Patterns();
        schemas = new Schemas();
        judging = new Judging(values, schemas, new Plain(values, patterns));
    }

    public int make(int kind) throws IllegalArgumentException, IllegalStateException {
        if (kind != Kind.NOTHING && kind != Kind.ROW && kind != Kind.MEMBERS) {
            throw new IllegalArgumentException("the kind is not 0, 4 or 5");
        }
        return addedValue(kind, 0);
    }

    public int truth(boolean is) throws IllegalStateException {
        return addedValue(Kind.TRUTH, is ? 1 : 0);
    }

    public int number(int m, int e) throws IllegalArgumentException, IllegalStateException {
        if (!isWithin(m, -MOST_MANTISSA, MOST_MANTISSA) || !isWithin(e, -MOST_EXPONENT, MOST_EXPONENT)) {
            throw new IllegalArgumentException("m is not -99999 .. 99999, or e not -3 .. 3");
        }
        return addedValue(Kind.NUMBER, (long) m * THOUSANDTHS[e + MOST_EXPONENT]);
    }

    public int text(int t) throws IllegalArgumentException, IllegalStateException {
        if (!Letters.areTold(t)) {
            throw new IllegalArgumentException("t tells no text");
        }
        return addedValue(Kind.TEXT, t);
    }

    public int push(int r, int v) throws IllegalArgumentException, IllegalStateException {
        if (!values.isOfKind(r, Kind.ROW) || !isWithin(v, 0, r - 1)) {
            throw new IllegalArgumentException("r is no row, or v not 0 .. r - 1");
        }
        if (values.sizeOf(r) >= Values.MOST_ELEMENTS) {
            throw new IllegalStateException("the row has 8 elements");
        }
        values.setPart(r, values.sizeOf(r), v);
        return values.sizeOf(r);
    }

    public void put(int r, int name, int v) throws IllegalArgumentException {
        if (!values.isOfKind(r, Kind.MEMBERS) || !isName(name) || !isWithin(v, 0, r - 1)) {
            throw new IllegalArgumentException("r has no members, the name is not 0 .. 11, or v not 0 .. r - 1");
        }
        values.setPart(r, name, v);
    }

    public int item(int p, int letters, int often) throws IllegalArgumentException, IllegalStateException {
        boolean taken = isWithin(letters, 0, Letters.ALL) && isWithin(often, Patterns.ONCE, Patterns.ONCE_OR_MORE);
        if (!patterns.has(p) || !taken) {
            throw new IllegalArgumentException("there is no such pattern, or letters or often is out of range");
        }
        if (patterns.isFull(p)) {
            throw new IllegalStateException("the pattern has 6 items");
        }
        return patterns.addItem(p, letters, often);
    }

    public void bind(int p, boolean beginning, boolean end) throws IllegalArgumentException {
        if (!patterns.has(p)) {
            throw new IllegalArgumentException("there is no such pattern");
        }
        patterns.setBounds(p, beginning, end);
    }

    public int schema() throws IllegalStateException {
        if (schemas.areFull()) {
            throw new IllegalStateException("there are 24 schemas");
        }
        return schemas.add();
    }

    public void rule(int s, int keyword, int x) throws IllegalArgumentException {
        if (!schemas.has(s) || !isWithin(keyword, Keyword.KIND, Keyword.REST)) {
            throw new IllegalArgumentException("there is no such schema or keyword");
        }
        if (x != Schemas.NONE && !isTaken(keyword, x)) {
            throw new IllegalArgumentException("x is neither -1 nor what the keyword takes");
        }
        schemas.setRule(s, keyword, x);
    }

    public int list(int s, int keyword, int x) throws IllegalArgumentException, IllegalStateException {
        if (!schemas.has(s) || !isWithin(keyword, Keyword.ALL, Keyword.PREFIX) || !schemas.has(x)) {
            throw new IllegalArgumentException("there is no such schema or keyword");
        }
        if (schemas.lengthOf(s, keyword) >= Schemas.MOST_LISTED) {
            throw new IllegalStateException("the keyword has 3 schemas");
        }
        return schemas.addListed(s, keyword, x);
    }

    public void named(int s, int keyword, int name, int x) throws IllegalArgumentException {
        if (!schemas.has(s) || !isWithin(keyword, Keyword.PROPERTY, Keyword.NEEDS) || !isName(name)) {
            throw new IllegalArgumentException("there is no such schema, keyword or name");
        }
        boolean taken = keyword == Keyword.NEEDS ? isWithin(x, 0, ALL_NAMES) : schemas.has(x);
        if (x != Schemas.NONE && !taken) {
            throw new IllegalArgumentException("x is neither -1 nor what the keyword takes");
        }
        schemas.setByName(s, keyword, name, x);
    }

    public boolean judge(int s, int v)
            throws IllegalArgumentException, IllegalStateException, UnsupportedOperationException {
        if (!schemas.has(s) || !values.has(v)) {
            throw new IllegalArgumentException("there is no such schema or value");
        }
        judging.forget();
        if (schemas.meetsCircle(s)) {
            throw new IllegalStateException("a schema leads to itself in place");
        }
        if (!judging.begin(s, v)) {
            throw new UnsupportedOperationException("a chain of more than 30 judged pairs");
        }
        return judging.isValid(s, v);
    }

    public int marks(int s, int v) throws IllegalArgumentException {
        if (!schemas.has(s) || !values.has(v)) {
            throw new IllegalArgumentException("there is no such schema or value");
        }
        return judging.marksOf(s, v);
    }

    public int faults() {
        return judging.countFaults();
    }

    public int fault(int i) throws IndexOutOfBoundsException {
        if (!isWithin(i, 0, judging.countFaults() - 1)) {
            throw new IndexOutOfBoundsException("there is no such fault");
        }
        return judging.faultAt(i);
    }

    public boolean equal(int v, int w) throws IllegalArgumentException {
        if (!values.has(v) || !values.has(w)) {
            throw new IllegalArgumentException("there is no such value");
        }
        values.settle();
        return values.areEqual(v, w);
    }

    private int addedValue(int kind, long core) throws IllegalStateException {
        if (values.areFull()) {
            throw new IllegalStateException("there are 40 values");
        }
        return values.add(kind, core);
    }

    private static boolean isWithin(int x, int least, int most) {
        return x >= least && x <= most;
    }

    private static boolean isName(int name) {
        return isWithin(name, 0, Values.NAMES - 1);
    }

    /** Whether x is what a keyword 0 .. 28 takes. */
    private boolean isTaken(int keyword, int x) {
        switch (keyword) {
            case Keyword.KIND:
                return isWithin(x, 0, ALL_KINDS);
            case Keyword.CONSTANT:
                return values.has(x);
            case Keyword.ENUMERATION:
                return values.isOfKind(x, Kind.ROW);
            case Keyword.LEAST:
            case Keyword.MOST:
            case Keyword.ABOVE:
            case Keyword.BELOW:
                return values.isOfKind(x, Kind.NUMBER);
            case Keyword.MULTIPLE:
                return values.isOfKind(x, Kind.NUMBER) && values.coreOf(x) > 0;
            case Keyword.SHORTEST:
            case Keyword.LONGEST:
            case Keyword.FEWEST_ELEMENTS:
            case Keyword.MOST_ELEMENTS:
            case Keyword.FEWEST_MEMBERS:
            case Keyword.MOST_MEMBERS:
            case Keyword.FEWEST_CONTAINED:
            case Keyword.MOST_CONTAINED:
                return isWithin(x, 0, MOST_COUNT);
            case Keyword.PATTERN:
                return patterns.has(x);
            case Keyword.UNIQUE:
                return isWithin(x, 0, 1);
            case Keyword.REQUIRED:
                return isWithin(x, 0, ALL_NAMES);
            default:
                return schemas.has(x);
        }
    }

    /** The numbers of the kinds. */
    private static final class Kind {
        static final int NOTHING = 0;
        static final int TRUTH = 1;
        static final int NUMBER = 2;
        static final int TEXT = 3;
        static final int ROW = 4;
        static final int MEMBERS = 5;
        static final int ANY = -1;
    }

    /** The numbers of the keywords. */
    private static final class Keyword {
        static final int KIND = 0;
        static final int CONSTANT = 1;
        static final int ENUMERATION = 2;
        static final int LEAST = 3;
        static final int MOST = 4;
        static final int ABOVE = 5;
        static final int BELOW = 6;
        static final int MULTIPLE = 7;
        static final int SHORTEST = 8;
        static final int LONGEST = 9;
        static final int PATTERN = 10;
        static final int FEWEST_ELEMENTS = 11;
        static final int MOST_ELEMENTS = 12;
        static final int UNIQUE = 13;
        static final int FEWEST_MEMBERS = 14;
        static final int MOST_MEMBERS = 15;
        static final int REQUIRED = 16;
        static final int NOT = 17;
        static final int IF = 18;
        static final int THEN = 19;
        static final int ELSE = 20;
        static final int SAME = 21;
        static final int ITEMS = 22;
        static final int CONTAINS = 23;
        static final int FEWEST_CONTAINED = 24;
        static final int MOST_CONTAINED = 25;
        static final int ADDITIONAL = 26;
        static final int OTHERS = 27;
        static final int REST = 28;
        static final int ALL = 29;
        static final int ANY = 30;
        static final int ONE = 31;
        static final int PREFIX = 32;
        static final int PROPERTY = 33;
        static final int WITH = 34;
        static final int NEEDS = 35;
    }

    /** Texts, told as numbers to the base of 5. */
    private static final class Letters {
        static final int MOST = 8;
        static final int ALL = 15;
        private static final int BASE = 5;

        static boolean areTold(int t) {
            int rest = t;
            for (int i = 0; i < MOST && rest > 0; i++) {
                if (rest % BASE == 0) {
                    return false;
                }
                rest /= BASE;
            }
            return rest == 0;
        }

        static int count(int t) {
            int rest = t;
            int count = 0;
            for (int i = 0; i < MOST && rest > 0; i++) {
                rest /= BASE;
                count++;
            }
            return count;
        }

        /** Bits of the places in t at which one of the letters stands. */
        static int placesOf(int t, int letters) {
            int rest = t;
            int places = 0;
            for (int i = 0; i < MOST && rest > 0; i++) {
                if ((letters >> (rest % BASE - 1) & 1) != 0) {
                    places |= 1 << i;
                }
                rest /= BASE;
            }
            return places;
        }
    }

    private static final class Values {
        static final int MOST = 40;
        static final int MOST_ELEMENTS = 8;
        static final int NAMES = 12;

        private final int[] kinds;
        /** A truth, a number's thousandths, or a text as it is told. */
        private final long[] cores;
        /** Bits of the elements or names that are there. */
        private final int[] present;
        private final int[] parts;
        /** The least value that is equal: right for the values below settled. */
        private final int[] twins;
        private int count;
        private int settled;

        Values() {
            kinds = new int[MOST];
            cores = new long[MOST];
            present = new int[MOST];
            parts = new int[MOST * NAMES];
            twins = new int[MOST];
        }

        boolean has(int v) {
            return v >= 0 && v < count;
        }

        boolean areFull() {
            return count >= MOST;
        }

        boolean isOfKind(int v, int kind) {
            return has(v) && kinds[v] == kind;
        }

        int add(int kind, long core) {
            kinds[count] = kind;
            cores[count] = core;
            count++;
            return count - 1;
        }

        void setPart(int r, int i, int v) {
            parts[r * NAMES + i] = v;
            present[r] |= 1 << i;
            // Only r and the later values, which may hold it, can have other twins now.
            settled = Math.min(settled, r);
        }

        int kindOf(int v) {
            return kinds[v];
        }

        long coreOf(int v) {
            return cores[v];
        }

        int presentIn(int v) {
            return present[v];
        }

        boolean isPresent(int v, int i) {
            return (present[v] >> i & 1) != 0;
        }

        int partOf(int v, int i) {
            return parts[v * NAMES + i];
        }

        /** How many letters, elements or members there are. */
        int sizeOf(int v) {
            return kinds[v] == Kind.TEXT ? Letters.count((int) cores[v]) : Integer.bitCount(present[v]);
        }

        /** Finds twins from the lesser values on, since parts are lesser: shared parts are so compared once. */
        void settle() {
            for (int v = settled; v < count; v++) {
                twins[v] = v;
                for (int w = 0; w < v && twins[v] == v; w++) {
                    if (areAlike(v, w)) {
                        twins[v] = w;
                    }
                }
            }
            settled = count;
        }

        private boolean areAlike(int v, int w) {
            if (kinds[v] != kinds[w] || cores[v] != cores[w] || present[v] != present[w]) {
                return false;
            }
            for (int i = 0; i < NAMES; i++) {
                if (isPresent(v, i) && !areEqual(partOf(v, i), partOf(w, i))) {
                    return false;
                }
            }
            return true;
        }

        /** Whether two settled values are equal. */
        boolean areEqual(int v, int w) {
            return twins[v] == twins[w];
        }

        boolean hasEqualElement(int r, int v) {
            for (int i = 0; i < MOST_ELEMENTS; i++) {
                if (isPresent(r, i) && areEqual(partOf(r, i), v)) {
                    return true;
                }
            }
            return false;
        }

        boolean hasEqualElements(int r) {
            int length = sizeOf(r);
            for (int i = 1; i < length; i++) {
                for (int k = 0; k < i; k++) {
                    if (areEqual(partOf(r, i), partOf(r, k))) {
                        return true;
                    }
                }
            }
            return false;
        }
    }

    private static final class Patterns {
        static final int ONCE = 0;
        static final int ONCE_OR_NOT = 1;
        static final int ANY_TIMES = 2;
        static final int ONCE_OR_MORE = 3;
        private static final int MOST = 8;
        private static final int MOST_ITEMS = 6;

        private final int[] counts;
        private final int[] letters;
        private final int[] often;
        private final boolean[] fromBeginning;
        private final boolean[] toEnd;

        Patterns() {
            counts = new int[MOST];
            letters = new int[MOST * MOST_ITEMS];
            often = new int[MOST * MOST_ITEMS];
            fromBeginning = new boolean[MOST];
            toEnd = new boolean[MOST];
        }

        boolean has(int p) {
            return p >= 0 && p < MOST;
        }

        boolean isFull(int p) {
            return counts[p] >= MOST_ITEMS;
        }

        int addItem(int p, int itemLetters, int itemOften) {
            letters[p * MOST_ITEMS + counts[p]] = itemLetters;
            often[p * MOST_ITEMS + counts[p]] = itemOften;
            counts[p]++;
            return counts[p];
        }

        void setBounds(int p, boolean beginning, boolean end) {
            fromBeginning[p] = beginning;
            toEnd[p] = end;
        }

        /** Follows all ways through the text at once: bits of the places to which the items so far can lead. */
        boolean match(int p, int t) {
            int end = 1 << Letters.count(t);
            int places = fromBeginning[p] ? 1 : 2 * end - 1;
            for (int i = 0; i < counts[p]; i++) {
                int fitting = Letters.placesOf(t, letters[p * MOST_ITEMS + i]);
                places = follow(places, fitting, often[p * MOST_ITEMS + i]);
            }
            return toEnd[p] ? (places & end) != 0 : places != 0;
        }

        private static int follow(int places, int fitting, int howOften) {
            int once = (places & fitting) << 1;
            if (howOften == ONCE) {
                return once;
            }
            if (howOften == ONCE_OR_NOT) {
                return places | once;
            }
            int reached = howOften == ANY_TIMES ? places : once;
            for (int i = 0; i < Letters.MOST; i++) {
                reached |= (reached & fitting) << 1;
            }
            return reached;
        }
    }

    private static final class Schemas {
        static final int MOST = 24;
        static final int MOST_LISTED = 3;
        static final int NONE = -1;
        private static final int RULES = Keyword.REST + 1;
        private static final int LISTS = Keyword.PREFIX - Keyword.ALL + 1;
        private static final int NAMED = Keyword.NEEDS - Keyword.PROPERTY + 1;

        private final int[] rules;
        private final int[] lengths;
        private final int[] listed;
        private final int[] byName;
        /** Bits of the schemas to which each one leads: in place, and in all. */
        private final int[] inPlace;
        private final int[] anywhere;
        private int count;

        Schemas() {
            rules = new int[MOST * RULES];
            Arrays.fill(rules, NONE);
            lengths = new int[MOST * LISTS];
            listed = new int[MOST * LISTS * MOST_LISTED];
            byName = new int[MOST * NAMED * Values.NAMES];
            Arrays.fill(byName, NONE);
            inPlace = new int[MOST];
            anywhere = new int[MOST];
        }

        boolean has(int s) {
            return s >= 0 && s < count;
        }

        boolean areFull() {
            return count >= MOST;
        }

        int add() {
            count++;
            return count - 1;
        }

        void setRule(int s, int keyword, int x) {
            rules[s * RULES + keyword] = x;
        }

        /** What a keyword 0 .. 28 says, or NONE. */
        int ruleOf(int s, int keyword) {
            return rules[s * RULES + keyword];
        }

        private static int listIndex(int s, int keyword) {
            return s * LISTS + keyword - Keyword.ALL;
        }

        int addListed(int s, int keyword, int x) {
            int index = listIndex(s, keyword);
            listed[index * MOST_LISTED + lengths[index]] = x;
            lengths[index]++;
            return lengths[index];
        }

        int lengthOf(int s, int keyword) {
            return lengths[listIndex(s, keyword)];
        }

        int listedAt(int s, int keyword, int k) {
            return listed[listIndex(s, keyword) * MOST_LISTED + k];
        }

        private static int nameIndex(int s, int keyword, int name) {
            return (s * NAMED + keyword - Keyword.PROPERTY) * Values.NAMES + name;
        }

        void setByName(int s, int keyword, int name, int x) {
            byName[nameIndex(s, keyword, name)] = x;
        }

        /** What a keyword 33 .. 35 says for a name, or NONE. */
        int byNameOf(int s, int keyword, int name) {
            return byName[nameIndex(s, keyword, name)];
        }

        /** Whether s, or a schema to which it leads, leads to itself in place. */
        boolean meetsCircle(int s) {
            for (int i = 0; i < count; i++) {
                inPlace[i] = leadsInPlace(i);
                anywhere[i] = inPlace[i] | leadsElsewhere(i);
            }
            leadOn(inPlace);
            leadOn(anywhere);
            int met = anywhere[s] | 1 << s;
            for (int i = 0; i < count; i++) {
                if ((met >> i & 1) != 0 && (inPlace[i] >> i & 1) != 0) {
                    return true;
                }
            }
            return false;
        }

        private int leadsInPlace(int s) {
            int led = 0;
            for (int keyword = Keyword.NOT; keyword <= Keyword.SAME; keyword++) {
                led |= bitOf(ruleOf(s, keyword));
            }
            for (int keyword = Keyword.ALL; keyword <= Keyword.ONE; keyword++) {
                led |= listedBits(s, keyword);
            }
            return led | namedBits(s, Keyword.WITH);
        }

        private int leadsElsewhere(int s) {
            int led = listedBits(s, Keyword.PREFIX) | namedBits(s, Keyword.PROPERTY);
            led |= bitOf(ruleOf(s, Keyword.ITEMS)) | bitOf(ruleOf(s, Keyword.CONTAINS));
            for (int keyword = Keyword.ADDITIONAL; keyword <= Keyword.REST; keyword++) {
                led |= bitOf(ruleOf(s, keyword));
            }
            return led;
        }

        private static int bitOf(int x) {
            return x == NONE ? 0 : 1 << x;
        }

        private int listedBits(int s, int keyword) {
            int bits = 0;
            for (int k = 0; k < lengthOf(s, keyword); k++) {
                bits |= bitOf(listedAt(s, keyword, k));
            }
            return bits;
        }

        private int namedBits(int s, int keyword) {
            int bits = 0;
            for (int name = 0; name < Values.NAMES; name++) {
                bits |= bitOf(byNameOf(s, keyword, name));
            }
            return bits;
        }

        /** Adds to each schema's bits those to which it leads over others. */
        private void leadOn(int[] led) {
            for (int over = 0; over < count; over++) {
                for (int from = 0; from < count; from++) {
                    if ((led[from] >> over & 1) != 0) {
                        led[from] |= led[over];
                    }
                }
            }
        }
    }

    /** The keywords 0 .. 16, which ask for no other judging. */
    private static final class Plain {
        private static final int WHOLE = 64;
        private static final int ONE_IN_THOUSANDTHS = 1000;
        /** By keyword: the kind of which it says something. */
        private static final int[] SPEAKS_OF = {
            Kind.ANY, Kind.ANY, Kind.ANY,
            Kind.NUMBER, Kind.NUMBER, Kind.NUMBER, Kind.NUMBER, Kind.NUMBER,
            Kind.TEXT, Kind.TEXT, Kind.TEXT,
            Kind.ROW, Kind.ROW, Kind.ROW,
            Kind.MEMBERS, Kind.MEMBERS, Kind.MEMBERS,
        };

        private final Values values;
        private final Patterns patterns;

        Plain(Values values, Patterns patterns) {
            this.values = values;
            this.patterns = patterns;
        }

        boolean holds(int keyword, int x, int v) {
            int kind = SPEAKS_OF[keyword];
            if (kind != Kind.ANY && kind != values.kindOf(v)) {
                return true;
            }
            switch (keyword) {
                case Keyword.KIND:
                    return (kindBits(v) & x) != 0;
                case Keyword.CONSTANT:
                    return values.areEqual(v, x);
                case Keyword.ENUMERATION:
                    return values.hasEqualElement(x, v);
                case Keyword.LEAST:
                    return values.coreOf(v) >= values.coreOf(x);
                case Keyword.MOST:
                    return values.coreOf(v) <= values.coreOf(x);
                case Keyword.ABOVE:
                    return values.coreOf(v) > values.coreOf(x);
                case Keyword.BELOW:
                    return values.coreOf(v) < values.coreOf(x);
                case Keyword.MULTIPLE:
                    return isMultiple(values.coreOf(v), values.coreOf(x));
                case Keyword.SHORTEST:
                case Keyword.FEWEST_ELEMENTS:
                case Keyword.FEWEST_MEMBERS:
                    return values.sizeOf(v) >= x;
                case Keyword.LONGEST:
                case Keyword.MOST_ELEMENTS:
                case Keyword.MOST_MEMBERS:
                    return values.sizeOf(v) <= x;
                case Keyword.PATTERN:
                    return patterns.match(x, (int) values.coreOf(v));
                case Keyword.UNIQUE:
                    return x == 0 || !values.hasEqualElements(v);
                case Keyword.REQUIRED:
                    return (x & ~values.presentIn(v)) == 0;
                default:
                    return true;
            }
        }

        private int kindBits(int v) {
            int kind = values.kindOf(v);
            boolean whole = kind == Kind.NUMBER && isMultiple(values.coreOf(v), ONE_IN_THOUSANDTHS);
            return whole ? 1 << kind | WHOLE : 1 << kind;
        }

        private static boolean isMultiple(long size, long unit) {
            return unit > 0 && size % unit == 0;
        }
    }

    /** The latest judging, by pairs of a schema and a value. */
    private static final class Judging {
        private static final int PAIRS = Values.MOST * Schemas.MOST;
        private static final int LONGEST_CHAIN = 30;

        private final Values values;
        private final Schemas schemas;
        private final Plain plain;
        /** How many pairs the longest chain from a pair on has; 0: it was not judged. */
        private final int[] chains;
        private final int[] marked;
        /** Bits of the keywords that do not hold. */
        private final long[] broken;
        private boolean tooLong;

        Judging(Values values, Schemas schemas, Plain plain) {
            this.values = values;
            this.schemas = schemas;
            this.plain = plain;
            chains = new int[PAIRS];
            marked = new int[PAIRS];
            broken = new long[PAIRS];
        }

        /** Pairs stand in the order of faults. */
        private static int pairOf(int s, int v) {
            return v * Schemas.MOST + s;
        }

        void forget() {
            Arrays.fill(chains, 0);
            Arrays.fill(marked, 0);
            Arrays.fill(broken, 0);
            tooLong = false;
        }

        /** Whether it could be judged; if not, nothing counts as judged. To be called only where no circle is met. */
        boolean begin(int s, int v) {
            values.settle();
            weigh(s, v, 1);
            boolean done = !tooLong;
            if (!done) {
                forget();
            }
            return done;
        }

        boolean isValid(int s, int v) {
            return broken[pairOf(s, v)] == 0;
        }

        int marksOf(int s, int v) {
            return chains[pairOf(s, v)] == 0 ? -1 : marked[pairOf(s, v)];
        }

        int countFaults() {
            int count = 0;
            for (int pair = 0; pair < PAIRS; pair++) {
                count += Long.bitCount(broken[pair]);
            }
            return count;
        }

        int faultAt(int i) {
            int before = i;
            for (int pair = 0; pair < PAIRS; pair++) {
                int count = Long.bitCount(broken[pair]);
                if (before < count) {
                    return 10000 * (pair / Schemas.MOST) + 100 * (pair % Schemas.MOST) + bitAt(broken[pair], before);
                }
                before -= count;
            }
            return -1;
        }

        /** The place of a bit before which as many are set. */
        private static int bitAt(long bits, int before) {
            long rest = bits;
            for (int i = 0; i < before; i++) {
                rest &= rest - 1;
            }
            return Long.numberOfTrailingZeros(rest);
        }

        /** Looks at all keywords of a schema for a value that is the depth-th one of its chain. */
        private void weigh(int s, int v, int depth) {
            int pair = pairOf(s, v);
            chains[pair] = 1;
            for (int keyword = Keyword.KIND; keyword <= Keyword.REQUIRED; keyword++) {
                int x = schemas.ruleOf(s, keyword);
                if (x != Schemas.NONE && !plain.holds(keyword, x, v)) {
                    fail(s, v, keyword);
                }
            }
            weighInPlace(s, v, depth);
            if (values.kindOf(v) == Kind.ROW) {
                weighElements(s, v, depth);
                weighContains(s, v, depth);
                weighUnmarked(s, v, Keyword.REST, depth);
            }
            if (values.kindOf(v) == Kind.MEMBERS) {
                weighMembers(s, v, depth);
                weighUnmarked(s, v, Keyword.OTHERS, depth);
            }
            if (broken[pair] != 0) {
                marked[pair] = 0;
            }
        }

        private void fail(int s, int v, int keyword) {
            broken[pairOf(s, v)] |= 1L << keyword;
        }

        private void weighInPlace(int s, int v, int depth) {
            int not = schemas.ruleOf(s, Keyword.NOT);
            if (not != Schemas.NONE && ask(s, v, not, v, depth)) {
                fail(s, v, Keyword.NOT);
            }
            int when = schemas.ruleOf(s, Keyword.IF);
            if (when != Schemas.NONE) {
                weighSame(s, v, adopt(s, v, when, depth) ? Keyword.THEN : Keyword.ELSE, depth);
            }
            weighSame(s, v, Keyword.SAME, depth);
            for (int keyword = Keyword.ALL; keyword <= Keyword.ONE; keyword++) {
                weighList(s, v, keyword, depth);
            }
        }

        private void weighSame(int s, int v, int keyword, int depth) {
            int x = schemas.ruleOf(s, keyword);
            if (x != Schemas.NONE && !adopt(s, v, x, depth)) {
                fail(s, v, keyword);
            }
        }

        private void weighList(int s, int v, int keyword, int depth) {
            int length = schemas.lengthOf(s, keyword);
            int valid = 0;
            for (int k = 0; k < length; k++) {
                if (adopt(s, v, schemas.listedAt(s, keyword, k), depth)) {
                    valid++;
                }
            }
            if (length > 0 && !isEnough(keyword, valid, length)) {
                fail(s, v, keyword);
            }
        }

        private static boolean isEnough(int keyword, int valid, int length) {
            if (keyword == Keyword.ALL) {
                return valid == length;
            }
            return keyword == Keyword.ANY ? valid > 0 : valid == 1;
        }

        private void weighElements(int s, int v, int depth) {
            int length = values.sizeOf(v);
            int prefix = schemas.lengthOf(s, Keyword.PREFIX);
            int items = schemas.ruleOf(s, Keyword.ITEMS);
            for (int k = 0; k < length; k++) {
                if (k < prefix) {
                    weighPart(s, v, k, Keyword.PREFIX, schemas.listedAt(s, Keyword.PREFIX, k), depth);
                } else if (items != Schemas.NONE) {
                    weighPart(s, v, k, Keyword.ITEMS, items, depth);
                }
            }
        }

        private void weighContains(int s, int v, int depth) {
            int x = schemas.ruleOf(s, Keyword.CONTAINS);
            if (x == Schemas.NONE) {
                return;
            }
            int length = values.sizeOf(v);
            int valid = 0;
            for (int k = 0; k < length; k++) {
                if (ask(s, v, x, values.partOf(v, k), depth)) {
                    marked[pairOf(s, v)] |= 1 << k;
                    valid++;
                }
            }
            int fewest = schemas.ruleOf(s, Keyword.FEWEST_CONTAINED);
            if (valid < (fewest == Schemas.NONE ? 1 : fewest)) {
                fail(s, v, Keyword.CONTAINS);
            }
            int most = schemas.ruleOf(s, Keyword.MOST_CONTAINED);
            if (most != Schemas.NONE && valid > most) {
                fail(s, v, Keyword.MOST_CONTAINED);
            }
        }

        private void weighMembers(int s, int v, int depth) {
            int additional = schemas.ruleOf(s, Keyword.ADDITIONAL);
            for (int name = 0; name < Values.NAMES; name++) {
                if (!values.isPresent(v, name)) {
                    continue;
                }
                int property = schemas.byNameOf(s, Keyword.PROPERTY, name);
                if (property != Schemas.NONE) {
                    weighPart(s, v, name, Keyword.PROPERTY, property, depth);
                } else if (additional != Schemas.NONE) {
                    weighPart(s, v, name, Keyword.ADDITIONAL, additional, depth);
                }
                int with = schemas.byNameOf(s, Keyword.WITH, name);
                if (with != Schemas.NONE && !adopt(s, v, with, depth)) {
                    fail(s, v, Keyword.WITH);
                }
                int needs = schemas.byNameOf(s, Keyword.NEEDS, name);
                if (needs != Schemas.NONE && (needs & ~values.presentIn(v)) != 0) {
                    fail(s, v, Keyword.NEEDS);
                }
            }
        }

        /** OTHERS or REST: to be looked at when all other keywords have given their marks. */
        private void weighUnmarked(int s, int v, int keyword, int depth) {
            int x = schemas.ruleOf(s, keyword);
            if (x == Schemas.NONE) {
                return;
            }
            int unmarked = values.presentIn(v) & ~marked[pairOf(s, v)];
            for (int i = 0; i < Values.NAMES; i++) {
                if ((unmarked >> i & 1) != 0) {
                    weighPart(s, v, i, keyword, x, depth);
                }
            }
        }

        /** A part gets its mark also when x is not valid of it: it has been looked at. */
        private void weighPart(int s, int v, int i, int keyword, int x, int depth) {
            marked[pairOf(s, v)] |= 1 << i;
            if (!ask(s, v, x, values.partOf(v, i), depth)) {
                fail(s, v, keyword);
            }
        }

        /** Whether x is valid in the same place; its marks, which it has only then, are taken over. */
        private boolean adopt(int s, int v, int x, int depth) {
            boolean valid = ask(s, v, x, v, depth);
            marked[pairOf(s, v)] |= marked[pairOf(x, v)];
            return valid;
        }

        /** Whether x is valid of the part; it is judged if it has not been, and the chains of s and v grow by it. */
        private boolean ask(int s, int v, int x, int part, int depth) {
            if (tooLong || depth >= LONGEST_CHAIN) {
                tooLong = true;
                return false;
            }
            int asked = pairOf(x, part);
            if (chains[asked] == 0) {
                weigh(x, part, depth + 1);
            }
            if (depth + chains[asked] > LONGEST_CHAIN) {
                tooLong = true;
            }
            int asker = pairOf(s, v);
            chains[asker] = Math.max(chains[asker], chains[asked] + 1);
            return broken[asked] == 0;
        }
    }
}
