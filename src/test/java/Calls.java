/** An object of SchemaJudge: each call can be told beforehand what is due, an answer or an exception's name. */
final class Calls {
    static final String ARGUMENT = "throws.IllegalArgumentException";
    static final String STATE = "throws.IllegalStateException";
    static final String INDEX = "throws.IndexOutOfBoundsException";
    static final String UNSUPPORTED = "throws.UnsupportedOperationException";
    /** What is due of a call without an answer that is not refused. */
    static final String TAKEN = "taken";
    static final int MOST_CALLS = 512;
    static final int NOTHING = 0;
    static final int TRUTH = 1;
    static final int NUMBER = 2;
    static final int TEXT = 3;
    static final int ROW = 4;
    static final int MEMBERS = 5;

    private final SchemaJudge x = new SchemaJudge();
    private Object due = null;
    private int made = 0;

    /** What the next call has to answer. Without this a call must only not throw. */
    Calls due(Object answer) {
        due = answer;
        return this;
    }

    /** Whether so many more calls would be too many for this object: behind its 512th call every answer is free. */
    boolean isUsedUp(int more) {
        return made + more > MOST_CALLS;
    }

    /** How many calls the object has had. */
    int made() {
        return made;
    }

    private Object call(String name, Check.Call call) {
        Object want = due;
        due = null;
        made++;
        if (made > MOST_CALLS) {
            Check.due("calls of one object", made, "at most " + MOST_CALLS);
        }
        Object got = Check.outcome(call);
        boolean thrown = got instanceof String told && told.startsWith("throws.");
        if (want != null || thrown) {
            Check.due(name, got, want == null ? "no exception" : want);
        }
        return got;
    }

    /** The answer as a number, or one that no call takes if there was none. */
    private int answer(String name, Check.Call call) {
        return call(name, call) instanceof Integer given ? given : Integer.MIN_VALUE;
    }

    private void taken(String name, Runnable call) {
        call(name, () -> {
            call.run();
            return TAKEN;
        });
    }

    private static String told(String name, Object... arguments) {
        StringBuilder b = new StringBuilder(name).append('(');
        for (int i = 0; i < arguments.length; i++) {
            b.append(i == 0 ? "" : ", ").append(arguments[i]);
        }
        return b.append(')').toString();
    }

    int make(int kind) {
        return answer(told("make", kind), () -> x.make(kind));
    }

    int truth(boolean is) {
        return answer(told("truth", is), () -> x.truth(is));
    }

    int number(int m, int e) {
        return answer(told("number", m, e), () -> x.number(m, e));
    }

    int text(int t) {
        return answer(told("text", t), () -> x.text(t));
    }

    int push(int r, int v) {
        return answer(told("push", r, v), () -> x.push(r, v));
    }

    void put(int r, int name, int v) {
        taken(told("put", r, name, v), () -> x.put(r, name, v));
    }

    int item(int p, int letters, int often) {
        return answer(told("item", p, letters, often), () -> x.item(p, letters, often));
    }

    void bind(int p, boolean beginning, boolean end) {
        taken(told("bind", p, beginning, end), () -> x.bind(p, beginning, end));
    }

    int schema() {
        return answer("schema()", () -> x.schema());
    }

    void rule(int s, int keyword, int says) {
        taken(told("rule", s, keyword, says), () -> x.rule(s, keyword, says));
    }

    int list(int s, int keyword, int of) {
        return answer(told("list", s, keyword, of), () -> x.list(s, keyword, of));
    }

    void named(int s, int keyword, int name, int says) {
        taken(told("named", s, keyword, name, says), () -> x.named(s, keyword, name, says));
    }

    boolean judge(int s, int v) {
        return call(told("judge", s, v), () -> x.judge(s, v)) instanceof Boolean given && given;
    }

    int marks(int s, int v) {
        return answer(told("marks", s, v), () -> x.marks(s, v));
    }

    int faults() {
        return answer("faults()", () -> x.faults());
    }

    int fault(int i) {
        return answer(told("fault", i), () -> x.fault(i));
    }

    boolean equal(int v, int w) {
        return call(told("equal", v, w), () -> x.equal(v, w)) instanceof Boolean given && given;
    }

    void schemas(int count) {
        for (int n = 0; n < count; n++) {
            schema();
        }
    }

    /** The letters first to last, told as a number. */
    int letters(String letters) {
        int t = 0;
        for (int i = letters.length() - 1; i >= 0; i--) {
            t = 5 * t + letters.charAt(i) - 'a' + 1;
        }
        return text(t);
    }

    int row(int... elements) {
        int r = make(ROW);
        for (int v : elements) {
            push(r, v);
        }
        return r;
    }

    /** Members in pairs of a name and a value. */
    int members(int... members) {
        int r = make(MEMBERS);
        for (int i = 0; i < members.length; i += 2) {
            put(r, members[i], members[i + 1]);
        }
        return r;
    }

    /** A keyword of any sort says something; those by names, for name 0. */
    void says(int s, int keyword, int says) {
        if (keyword >= 33) {
            named(s, keyword, 0, says);
        } else if (keyword >= 29) {
            list(s, keyword, says);
        } else {
            rule(s, keyword, says);
        }
    }

    static int code(int v, int s, int keyword) {
        return 10000 * v + 100 * s + keyword;
    }

    /** Looks at all faults of the latest judging. */
    void allFaults(int... faults) {
        due(faults.length).faults();
        for (int i = 0; i < faults.length; i++) {
            due(faults[i]).fault(i);
        }
        due(INDEX).fault(faults.length);
    }

    /** Looks whether one of the faults of the latest judging is that one. */
    void hasFault(int fault) {
        boolean found = false;
        int count = faults();
        for (int i = 0; i < count; i++) {
            found |= fault(i) == fault;
        }
        Check.due("fault " + fault + " is there", found, true);
    }
}
