import java.math.BigDecimal;
import java.util.ArrayList;
import java.util.HashMap;
import java.util.HashSet;
import java.util.LinkedHashSet;
import java.util.List;
import java.util.Map;
import java.util.Set;
import java.util.TreeMap;
import java.util.TreeSet;
import java.util.regex.Pattern;

/** The document in another form, with the means of the Java library: what SchemaJudge should answer. */
final class Oracle {
    /** What a value is: null, Boolean, BigDecimal, String, or a list or map of the numbers of values. */
    private final List<Object> values = new ArrayList<>();
    private final List<Map<Integer, Integer>> rules = new ArrayList<>();
    private final List<Map<Integer, List<Integer>>> lists = new ArrayList<>();
    private final List<Map<Integer, Map<Integer, Integer>>> names = new ArrayList<>();
    private final List<StringBuilder> patterns = new ArrayList<>();
    private final int[] items = new int[8];
    private final String[] bounds = new String[8];
    private final Map<String, Integer> numberOfForm = new HashMap<>();
    private final Map<Integer, Integer> formOfValue = new HashMap<>();
    private Map<Integer, Verdict> judged = new HashMap<>();

    private static final Object NOTHING = new Object();
    private static final Set<Integer> IN_PLACE = Set.of(17, 18, 19, 20, 21, 29, 30, 31, 34);
    private static final Set<Integer> WITH_SCHEMAS =
        Set.of(17, 18, 19, 20, 21, 22, 23, 26, 27, 28, 29, 30, 31, 32, 33, 34);

    /** A judged pair. */
    private static final class Verdict {
        final Set<Integer> faults = new TreeSet<>();
        final Set<Integer> marks = new TreeSet<>();
        final Set<Verdict> asked = new LinkedHashSet<>();
        int height = 0;
    }

    Oracle() {
        for (int p = 0; p < 8; p++) {
            patterns.add(new StringBuilder());
            bounds[p] = "__";
        }
    }

    private static void demand(boolean is) {
        if (!is) {
            throw new IllegalArgumentException();
        }
    }

    private boolean isValue(int v) {
        return v >= 0 && v < values.size();
    }

    private boolean isSchema(int s) {
        return s >= 0 && s < rules.size();
    }

    private int add(Object value) {
        if (values.size() == 40) {
            throw new IllegalStateException();
        }
        values.add(value);
        return values.size() - 1;
    }

    int make(int kind) {
        demand(Set.of(0, 4, 5).contains(kind));
        return add(kind == 0 ? NOTHING : kind == 4 ? new ArrayList<Integer>() : new TreeMap<Integer, Integer>());
    }

    int truth(boolean is) {
        return add(is);
    }

    int number(int m, int e) {
        demand(m > -100000 && m < 100000 && e > -4 && e < 4);
        return add(BigDecimal.valueOf(m).scaleByPowerOfTen(e));
    }

    int text(int t) {
        demand(t >= 0);
        String digits = t == 0 ? "" : Integer.toString(t, 5);
        demand(digits.length() <= 8 && digits.indexOf('0') < 0);
        StringBuilder letters = new StringBuilder();
        for (char digit : digits.toCharArray()) {
            letters.append((char) (digit - '1' + 'a'));
        }
        return add(letters.reverse().toString());
    }

    int push(int r, int v) {
        demand(isValue(r) && values.get(r) instanceof List && v >= 0 && v < r);
        List<Integer> row = row(r);
        if (row.size() == 8) {
            throw new IllegalStateException();
        }
        row.add(v);
        formOfValue.clear();
        return row.size();
    }

    void put(int r, int name, int v) {
        demand(isValue(r) && values.get(r) instanceof Map && v >= 0 && v < r && name >= 0 && name < 12);
        members(r).put(name, v);
        formOfValue.clear();
    }

    @SuppressWarnings("unchecked")
    private List<Integer> row(int r) {
        return (List<Integer>) values.get(r);
    }

    @SuppressWarnings("unchecked")
    private Map<Integer, Integer> members(int r) {
        return (Map<Integer, Integer>) values.get(r);
    }

    int item(int p, int letters, int often) {
        demand(p >= 0 && p < 8 && letters >= 0 && letters < 16 && often >= 0 && often < 4);
        if (items[p] == 6) {
            throw new IllegalStateException();
        }
        StringBuilder pattern = patterns.get(p);
        // No letter of a text is an x.
        pattern.append("[x");
        for (int i = 0; i < 4; i++) {
            pattern.append((letters & 1 << i) != 0 ? String.valueOf((char) ('a' + i)) : "");
        }
        pattern.append(']').append(new String[] {"", "?", "*", "+"}[often]);
        items[p]++;
        return items[p];
    }

    void bind(int p, boolean beginning, boolean end) {
        demand(p >= 0 && p < 8);
        bounds[p] = (beginning ? "^" : "_") + (end ? "$" : "_");
    }

    int schema() {
        if (rules.size() == 24) {
            throw new IllegalStateException();
        }
        rules.add(new TreeMap<>());
        lists.add(new TreeMap<>());
        names.add(new TreeMap<>());
        for (int keyword = 29; keyword <= 32; keyword++) {
            lists.get(lists.size() - 1).put(keyword, new ArrayList<>());
        }
        for (int keyword = 33; keyword <= 35; keyword++) {
            names.get(names.size() - 1).put(keyword, new TreeMap<>());
        }
        return rules.size() - 1;
    }

    void rule(int s, int keyword, int x) {
        demand(isSchema(s) && keyword >= 0 && keyword <= 28);
        if (x == -1) {
            rules.get(s).remove(keyword);
            return;
        }
        Map<Integer, Integer> most = new HashMap<>(Map.of(0, 127, 10, 7, 13, 1, 16, 4095));
        for (int count : new int[] {8, 9, 11, 12, 14, 15, 24, 25}) {
            most.put(count, 12);
        }
        if (most.containsKey(keyword)) {
            demand(x >= 0 && x <= most.get(keyword));
        } else if (keyword <= 7) {
            demand(isValue(x));
            demand(keyword != 2 || values.get(x) instanceof List);
            demand(keyword < 3 || values.get(x) instanceof BigDecimal);
            demand(keyword != 7 || ((BigDecimal) values.get(x)).signum() > 0);
        } else {
            demand(isSchema(x));
        }
        rules.get(s).put(keyword, x);
    }

    int list(int s, int keyword, int x) {
        demand(isSchema(s) && keyword >= 29 && keyword <= 32 && isSchema(x));
        List<Integer> list = lists.get(s).get(keyword);
        if (list.size() == 3) {
            throw new IllegalStateException();
        }
        list.add(x);
        return list.size();
    }

    void named(int s, int keyword, int name, int x) {
        demand(isSchema(s) && keyword >= 33 && keyword <= 35 && name >= 0 && name < 12);
        demand(x == -1 || (keyword == 35 ? x >= 0 && x < 4096 : isSchema(x)));
        if (x == -1) {
            names.get(s).get(keyword).remove(name);
        } else {
            names.get(s).get(keyword).put(name, x);
        }
    }

    boolean equal(int v, int w) {
        demand(isValue(v) && isValue(w));
        return knownForm(v) == knownForm(w);
    }

    /** A number that is the same for equal values alone, from a text of the value's own and its parts' numbers. */
    private int form(int v) {
        Object value = values.get(v);
        StringBuilder b = new StringBuilder();
        if (value instanceof BigDecimal number) {
            b.append(number.signum() == 0 ? "0" : number.stripTrailingZeros().toString());
        } else if (value instanceof List) {
            b.append('[');
            for (int element : row(v)) {
                b.append(knownForm(element)).append(',');
            }
        } else if (value instanceof Map) {
            b.append('{');
            for (Map.Entry<Integer, Integer> member : members(v).entrySet()) {
                b.append(member.getKey()).append(':').append(knownForm(member.getValue())).append(',');
            }
        } else if (value == NOTHING) {
            b.append('-');
        } else {
            b.append(value instanceof String ? "'" + value + "'" : value);
        }
        return numberOfForm.computeIfAbsent(b.toString(), text -> numberOfForm.size());
    }

    private int knownForm(int v) {
        Integer known = formOfValue.get(v);
        if (known == null) {
            known = form(v);
            formOfValue.put(v, known);
        }
        return known;
    }

    private List<Integer> leads(int s, boolean inPlaceOnly) {
        List<Integer> to = new ArrayList<>();
        for (int keyword : WITH_SCHEMAS) {
            if (inPlaceOnly && !IN_PLACE.contains(keyword)) {
                continue;
            }
            if (rules.get(s).containsKey(keyword)) {
                to.add(rules.get(s).get(keyword));
            }
            to.addAll(lists.get(s).getOrDefault(keyword, List.of()));
            to.addAll(names.get(s).getOrDefault(keyword, Map.of()).values());
        }
        return to;
    }

    /** All to which s leads, over others or not. */
    private Set<Integer> reached(int s, boolean inPlaceOnly) {
        Set<Integer> reached = new HashSet<>();
        List<Integer> open = new ArrayList<>(leads(s, inPlaceOnly));
        while (!open.isEmpty()) {
            int next = open.remove(open.size() - 1);
            if (reached.add(next)) {
                open.addAll(leads(next, inPlaceOnly));
            }
        }
        return reached;
    }

    boolean judge(int s, int v) {
        demand(isSchema(s) && isValue(v));
        judged = new HashMap<>();
        Set<Integer> met = reached(s, false);
        met.add(s);
        for (int one : met) {
            if (reached(one, true).contains(one)) {
                throw new IllegalStateException();
            }
        }
        Verdict verdict = verdict(s, v);
        if (height(verdict) > 30) {
            judged = new HashMap<>();
            throw new UnsupportedOperationException();
        }
        return verdict.faults.isEmpty();
    }

    private static int height(Verdict verdict) {
        if (verdict.height == 0) {
            int most = 0;
            for (Verdict asked : verdict.asked) {
                most = Math.max(most, height(asked));
            }
            verdict.height = most + 1;
        }
        return verdict.height;
    }

    private Verdict verdict(int s, int v) {
        Verdict verdict = judged.get(100 * v + s);
        if (verdict == null) {
            verdict = new Verdict();
            judged.put(100 * v + s, verdict);
            for (Map.Entry<Integer, Integer> rule : rules.get(s).entrySet()) {
                if (rule.getKey() <= 16 && !plain(rule.getKey(), rule.getValue(), v)) {
                    verdict.faults.add(rule.getKey());
                }
            }
            inPlace(verdict, s, v);
            Map<Integer, Integer> parts = new TreeMap<>();
            if (values.get(v) instanceof List) {
                for (int i = 0; i < row(v).size(); i++) {
                    parts.put(i, row(v).get(i));
                }
                elements(verdict, s, parts);
            } else if (values.get(v) instanceof Map) {
                parts.putAll(members(v));
                byNames(verdict, s, v);
            }
            unmarked(verdict, rules.get(s).get(values.get(v) instanceof List ? 28 : 27),
                values.get(v) instanceof List ? 28 : 27, parts);
            if (!verdict.faults.isEmpty()) {
                verdict.marks.clear();
            }
        }
        return verdict;
    }

    private boolean ask(Verdict verdict, int s, int v) {
        Verdict asked = verdict(s, v);
        verdict.asked.add(asked);
        return asked.faults.isEmpty();
    }

    private boolean askInPlace(Verdict verdict, int s, int v) {
        boolean valid = ask(verdict, s, v);
        if (valid) {
            verdict.marks.addAll(verdict(s, v).marks);
        }
        return valid;
    }

    private void inPlace(Verdict verdict, int s, int v) {
        Map<Integer, Integer> rule = rules.get(s);
        if (rule.containsKey(17) && ask(verdict, rule.get(17), v)) {
            verdict.faults.add(17);
        }
        if (rule.containsKey(18)) {
            int then = askInPlace(verdict, rule.get(18), v) ? 19 : 20;
            if (rule.containsKey(then) && !askInPlace(verdict, rule.get(then), v)) {
                verdict.faults.add(then);
            }
        }
        if (rule.containsKey(21) && !askInPlace(verdict, rule.get(21), v)) {
            verdict.faults.add(21);
        }
        for (int keyword = 29; keyword <= 31; keyword++) {
            List<Integer> list = lists.get(s).get(keyword);
            List<Integer> valid = new ArrayList<>();
            for (int x : list) {
                if (askInPlace(verdict, x, v)) {
                    valid.add(x);
                }
            }
            boolean wrong = keyword == 29 ? valid.size() < list.size()
                : keyword == 30 ? valid.isEmpty() : valid.size() != 1;
            if (!list.isEmpty() && wrong) {
                verdict.faults.add(keyword);
            }
        }
        if (values.get(v) instanceof Map) {
            for (Map.Entry<Integer, Integer> with : names.get(s).get(34).entrySet()) {
                if (members(v).containsKey(with.getKey()) && !askInPlace(verdict, with.getValue(), v)) {
                    verdict.faults.add(34);
                }
            }
        }
    }

    private void elements(Verdict verdict, int s, Map<Integer, Integer> parts) {
        Map<Integer, Integer> rule = rules.get(s);
        List<Integer> prefix = lists.get(s).get(32);
        int contained = 0;
        for (Map.Entry<Integer, Integer> part : parts.entrySet()) {
            boolean first = part.getKey() < prefix.size();
            if (first && !ask(verdict, prefix.get(part.getKey()), part.getValue())) {
                verdict.faults.add(32);
            }
            if (!first && rule.containsKey(22) && !ask(verdict, rule.get(22), part.getValue())) {
                verdict.faults.add(22);
            }
            boolean contains = rule.containsKey(23) && ask(verdict, rule.get(23), part.getValue());
            contained += contains ? 1 : 0;
            if (first || rule.containsKey(22) || contains) {
                verdict.marks.add(part.getKey());
            }
        }
        if (rule.containsKey(23) && contained < rule.getOrDefault(24, 1)) {
            verdict.faults.add(23);
        }
        if (rule.containsKey(23) && contained > rule.getOrDefault(25, 99)) {
            verdict.faults.add(25);
        }
    }

    private void byNames(Verdict verdict, int s, int v) {
        Map<Integer, Integer> property = names.get(s).get(33);
        Map<Integer, Integer> needs = names.get(s).get(35);
        Integer additional = rules.get(s).get(26);
        for (Map.Entry<Integer, Integer> member : members(v).entrySet()) {
            Integer x = property.getOrDefault(member.getKey(), additional);
            if (x != null) {
                verdict.marks.add(member.getKey());
                if (!ask(verdict, x, member.getValue())) {
                    verdict.faults.add(property.containsKey(member.getKey()) ? 33 : 26);
                }
            }
            if (!hasAll(v, needs.getOrDefault(member.getKey(), 0))) {
                verdict.faults.add(35);
            }
        }
    }

    private void unmarked(Verdict verdict, Integer x, int keyword, Map<Integer, Integer> parts) {
        if (x == null) {
            return;
        }
        Set<Integer> open = new TreeSet<>(parts.keySet());
        open.removeAll(verdict.marks);
        for (int i : open) {
            if (!ask(verdict, x, parts.get(i))) {
                verdict.faults.add(keyword);
            }
        }
        verdict.marks.addAll(open);
    }

    private boolean hasAll(int v, int bits) {
        for (int name = 0; name < 12; name++) {
            if ((bits & 1 << name) != 0 && !members(v).containsKey(name)) {
                return false;
            }
        }
        return true;
    }

    private boolean plain(int keyword, int x, int v) {
        Object value = values.get(v);
        if (keyword == 0) {
            return kindHolds(x, value);
        }
        if (keyword == 1) {
            return equal(v, x);
        }
        if (keyword == 2) {
            boolean found = false;
            for (int element : row(x)) {
                found |= equal(element, v);
            }
            return found;
        }
        if (keyword <= 7) {
            return !(value instanceof BigDecimal number) || numberHolds(keyword, number, (BigDecimal) values.get(x));
        }
        if (keyword <= 10) {
            return !(value instanceof String text) || (keyword == 8 ? text.length() >= x
                : keyword == 9 ? text.length() <= x : regex(x).matcher(text).find());
        }
        if (keyword <= 13) {
            return !(value instanceof List) || (keyword == 11 ? row(v).size() >= x
                : keyword == 12 ? row(v).size() <= x : x == 0 || differ(row(v)));
        }
        return !(value instanceof Map) || (keyword == 14 ? members(v).size() >= x
            : keyword == 15 ? members(v).size() <= x : hasAll(v, x));
    }

    private static boolean kindHolds(int bits, Object value) {
        if (value instanceof BigDecimal number) {
            boolean whole = number.remainder(BigDecimal.ONE).signum() == 0;
            return (bits & 4) != 0 || whole && (bits & 64) != 0;
        }
        int kind = value == NOTHING ? 1 : value instanceof Boolean ? 2 : value instanceof String ? 8
            : value instanceof List ? 16 : 32;
        return (bits & kind) != 0;
    }

    private static boolean numberHolds(int keyword, BigDecimal number, BigDecimal bound) {
        int order = number.compareTo(bound);
        switch (keyword) {
            case 3:
                return order >= 0;
            case 4:
                return order <= 0;
            case 5:
                return order > 0;
            case 6:
                return order < 0;
            default:
                return number.remainder(bound).signum() == 0;
        }
    }

    private Pattern regex(int p) {
        String beginning = bounds[p].charAt(0) == '^' ? "^" : "";
        String end = bounds[p].charAt(1) == '$' ? "$" : "";
        return Pattern.compile(beginning + patterns.get(p) + end);
    }

    private boolean differ(List<Integer> row) {
        Set<Integer> forms = new HashSet<>();
        for (int element : row) {
            forms.add(knownForm(element));
        }
        return forms.size() == row.size();
    }

    int marks(int s, int v) {
        demand(isSchema(s) && isValue(v));
        Verdict verdict = judged.get(100 * v + s);
        if (verdict == null) {
            return -1;
        }
        int bits = 0;
        for (int mark : verdict.marks) {
            bits += 1 << mark;
        }
        return bits;
    }

    private List<Integer> allFaults() {
        Set<Integer> all = new TreeSet<>();
        for (Map.Entry<Integer, Verdict> pair : judged.entrySet()) {
            for (int keyword : pair.getValue().faults) {
                all.add(100 * pair.getKey() + keyword);
            }
        }
        return new ArrayList<>(all);
    }

    int faults() {
        return allFaults().size();
    }

    int fault(int i) {
        List<Integer> all = allFaults();
        if (i < 0 || i >= all.size()) {
            throw new IndexOutOfBoundsException();
        }
        return all.get(i);
    }
}
