import java.util.Map;
import java.util.Random;
import java.util.TreeMap;

/** All promises: long runs of calls, made from fixed seeds, answered by SchemaJudge and by the Oracle. */
public final class OracleTest {
    private static final int RUNS = 4000;
    private static final int CALLS = 512;
    private static final int[] EDGES = {Integer.MIN_VALUE, -2, -1, 24, 40, 100, Integer.MAX_VALUE};

    private final Random random;
    private final SchemaJudge x = new SchemaJudge();
    private final Oracle oracle = new Oracle();
    private final StringBuilder told = new StringBuilder();
    private final Map<String, Integer> seen;
    private int values = 0;
    private int schemas = 0;
    private int calls = 0;
    private boolean wrong = false;

    private OracleTest(long seed, Map<String, Integer> seen) {
        random = new Random(seed);
        this.seen = seen;
    }

    public static void main(String[] args) {
        Map<String, Integer> seen = new TreeMap<>();
        int wrongRuns = 0;
        for (int run = 0; run < RUNS && wrongRuns < 3; run++) {
            OracleTest test = new OracleTest(run, seen);
            test.play();
            Check.due("run of seed " + run, test.wrong, false);
            if (test.wrong) {
                wrongRuns++;
                System.out.println(test.told);
            }
        }
        for (String outcome : new String[] {"judge false", "judge true", "judge throws.IllegalArgumentException",
            "judge throws.IllegalStateException", "judge throws.UnsupportedOperationException"}) {
            Check.due("seen often enough: " + outcome, seen.getOrDefault(outcome, 0) > 300, true);
        }
        System.out.println("answers of judge: " + seen);
        Check.end();
    }

    private int below(int bound) {
        return random.nextInt(Math.max(1, bound));
    }

    private boolean rarely() {
        return random.nextInt(40) == 0;
    }

    /** Mostly 0 .. bound - 1, now and then something far from it. */
    private int upTo(int bound) {
        return rarely() ? EDGES[below(EDGES.length)] : below(bound);
    }

    /** Behind the last call that the document speaks of, nothing is called. */
    private void same(String name, Check.Call mine, Check.Call due) {
        if (calls == CALLS) {
            return;
        }
        calls++;
        Object got = Check.outcome(mine);
        Object want = Check.outcome(due);
        told.append(name).append(" = ").append(got).append('\n');
        if (name.startsWith("judge")) {
            seen.merge("judge " + got, 1, Integer::sum);
        }
        if (!want.equals(got)) {
            wrong = true;
            told.append("  due is ").append(want).append('\n');
        }
    }

    private void play() {
        int depth = below(3);
        int circles = below(4) == 0 ? 2 : 0;
        if (below(3) == 0) {
            tower(20 + below(15));
        }
        while (calls < CALLS && !wrong) {
            boolean early = calls < 60 + below(120);
            int what = below(100);
            if (early && what < 25) {
                newValue();
            } else if (early && what < 40 || what < 3) {
                part(depth);
            } else if (early && what < 50 || what < 5) {
                schemaOrPattern();
            } else if (early && what < 85 || what < 25) {
                keyword(circles);
            } else if (what < 60) {
                judge();
            } else {
                look();
            }
        }
    }

    /** Values each of which holds the one before, and a schema that leads down through them. */
    private void tower(int height) {
        same("schema()", () -> x.schema(), () -> oracle.schema());
        schemas = 1;
        boolean rows = random.nextBoolean();
        int kind = rows ? 4 : 5;
        for (int v = 0; v < height; v++) {
            same("make(" + kind + ")", () -> x.make(kind), () -> oracle.make(kind));
            values++;
            if (v > 0) {
                setPart(rows, v, below(12), v - 1);
            }
        }
        setRule(0, rows ? 22 + 6 * below(2) : 26 + below(2), 0);
    }

    private void newValue() {
        switch (below(7)) {
            case 0: {
                boolean is = random.nextBoolean();
                same("truth(" + is + ")", () -> x.truth(is), () -> oracle.truth(is));
                break;
            }
            case 1: {
                int m = rarely() ? 100000 * (1 - 2 * below(2)) : (below(3) - 1) * 5 * below(9) + below(2) * 99990;
                int e = upTo(7) - 3;
                same("number(" + m + ", " + e + ")", () -> x.number(m, e), () -> oracle.number(m, e));
                break;
            }
            case 2: {
                int t = below(3) == 0 ? below(400000) : below(160) - 1;
                same("text(" + t + ")", () -> x.text(t), () -> oracle.text(t));
                break;
            }
            default: {
                int kind = rarely() ? below(8) - 1 : new int[] {0, 4, 4, 5, 5}[below(5)];
                same("make(" + kind + ")", () -> x.make(kind), () -> oracle.make(kind));
            }
        }
        while (Check.outcome(() -> oracle.equal(values, values)).equals(true)) {
            values++;
        }
    }

    /** The deeper, the more the latest values are taken for parts. */
    private void part(int depth) {
        int r = upTo(values);
        int v = below(3) < depth ? r - 1 - below(2) : upTo(r);
        setPart(random.nextBoolean(), r, upTo(12) % 13, v);
    }

    private void setPart(boolean row, int r, int name, int v) {
        if (row) {
            same("push(" + r + ", " + v + ")", () -> x.push(r, v), () -> oracle.push(r, v));
        } else {
            same("put(" + r + ", " + name + ", " + v + ")", () -> {
                x.put(r, name, v);
                return "nothing";
            }, () -> {
                oracle.put(r, name, v);
                return "nothing";
            });
        }
    }

    private void schemaOrPattern() {
        int p = rarely() ? upTo(9) : below(3);
        switch (below(4)) {
            case 0: {
                int letters = below(2) == 0 ? 15 : upTo(17);
                int often = upTo(4);
                same("item(" + p + ", " + letters + ", " + often + ")", () -> x.item(p, letters, often),
                    () -> oracle.item(p, letters, often));
                break;
            }
            case 1: {
                boolean beginning = random.nextBoolean();
                boolean end = random.nextBoolean();
                same("bind(" + p + ", " + beginning + ", " + end + ")", () -> {
                    x.bind(p, beginning, end);
                    return "nothing";
                }, () -> {
                    oracle.bind(p, beginning, end);
                    return "nothing";
                });
                break;
            }
            default: {
                same("schema()", () -> x.schema(), () -> oracle.schema());
                schemas = Math.min(24, schemas + 1);
            }
        }
    }

    /** In place mostly to greater schemas, so that circles stay rare. */
    private int schemaFor(int s, int keyword, int circles) {
        boolean inPlace = keyword >= 17 && keyword <= 21 || keyword >= 29 && keyword <= 31 || keyword == 34;
        if (inPlace && below(200) >= circles) {
            return s + 1 + below(Math.min(3, schemas - s - 1));
        }
        return upTo(schemas);
    }

    private int saysFor(int s, int keyword, int circles) {
        if (below(8) == 0) {
            return -1;
        }
        switch (keyword) {
            case 0:
                return below(2) == 0 ? 127 ^ 1 << below(7) : upTo(128);
            case 1:
            case 2:
            case 3:
            case 4:
            case 5:
            case 6:
            case 7:
                return upTo(values);
            case 10:
                return below(3);
            case 13:
                return upTo(2);
            case 16:
                return rarely() ? upTo(4097) : 1 << below(12) & 1 << below(12);
            case 8:
            case 9:
            case 11:
            case 12:
            case 14:
            case 15:
            case 24:
            case 25:
                return rarely() ? upTo(14) : below(4);
            default:
                return schemaFor(s, keyword, circles);
        }
    }

    private void setRule(int s, int keyword, int says) {
        same("rule(" + s + ", " + keyword + ", " + says + ")", () -> {
            x.rule(s, keyword, says);
            return "nothing";
        }, () -> {
            oracle.rule(s, keyword, says);
            return "nothing";
        });
    }

    private void keyword(int circles) {
        int s = upTo(schemas);
        int sort = below(10);
        if (sort < 6) {
            int keyword = rarely() ? upTo(36) : below(3) == 0 ? below(17) : 17 + below(12);
            setRule(s, keyword, saysFor(s, keyword, circles));
        } else if (sort < 8) {
            int keyword = rarely() ? upTo(36) : 29 + below(4);
            int t = schemaFor(s, keyword, circles);
            same("list(" + s + ", " + keyword + ", " + t + ")", () -> x.list(s, keyword, t),
                () -> oracle.list(s, keyword, t));
        } else {
            int keyword = rarely() ? upTo(36) : 33 + below(3);
            int name = upTo(12) % 13;
            int says = keyword == 35 ? 1 << below(12) | (rarely() ? 4096 : 0) : schemaFor(s, keyword, circles);
            int or = below(8) == 0 ? -1 : says;
            same("named(" + s + ", " + keyword + ", " + name + ", " + or + ")", () -> {
                x.named(s, keyword, name, or);
                return "nothing";
            }, () -> {
                oracle.named(s, keyword, name, or);
                return "nothing";
            });
        }
    }

    private void judge() {
        int s = upTo(schemas);
        int v = below(2) == 0 ? values - 1 - below(5) : upTo(values);
        same("judge(" + s + ", " + v + ")", () -> x.judge(s, v), () -> oracle.judge(s, v));
        same("faults()", () -> x.faults(), () -> oracle.faults());
        same("marks(" + s + ", " + v + ")", () -> x.marks(s, v), () -> oracle.marks(s, v));
        if (below(4) == 0) {
            lookAround();
        }
    }

    /** Some faults and marks of the latest judging, mostly of what was judged. */
    private void lookAround() {
        int first = below(oracle.faults());
        for (int i = first; i < Math.min(first + 6, oracle.faults()); i++) {
            int of = i;
            same("fault(" + i + ")", () -> x.fault(of), () -> oracle.fault(of));
        }
        for (int n = 0; n < 12 && schemas > 0 && values > 0; n++) {
            int pair = judgedPair();
            int by = pair / 40;
            int of = pair % 40;
            same("marks(" + by + ", " + of + ")", () -> x.marks(by, of), () -> oracle.marks(by, of));
        }
    }

    private int judgedPair() {
        int pair = 0;
        for (int tries = 0; tries < 12; tries++) {
            pair = 40 * below(schemas) + below(values);
            if (oracle.marks(pair / 40, pair % 40) >= 0) {
                return pair;
            }
        }
        return pair;
    }

    private void look() {
        int v = upTo(values);
        int w = upTo(values);
        int s = upTo(schemas);
        switch (below(3)) {
            case 0:
                same("equal(" + v + ", " + w + ")", () -> x.equal(v, w), () -> oracle.equal(v, w));
                break;
            case 1:
                same("marks(" + s + ", " + v + ")", () -> x.marks(s, v), () -> oracle.marks(s, v));
                break;
            default: {
                int i = upTo(oracle.faults() + 2);
                same("fault(" + i + ")", () -> x.fault(i), () -> oracle.fault(i));
            }
        }
    }
}
