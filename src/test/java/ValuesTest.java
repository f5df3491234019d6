/** Promises 1 to 7 and 18: a new object, the making of values, and when they are equal. */
public final class ValuesTest {
    public static void main(String[] args) {
        newObject();
        make();
        truth();
        number();
        text();
        push();
        put();
        fortyValues();
        equalAtoms();
        equalNumbers();
        equalRows();
        equalMembers();
        equalAfterChanges();
        equalOfSharedParts();
        equalOfNoValue();
        Check.end();
    }

    private static void newObject() {
        SchemaJudge x = new SchemaJudge();
        Check.due("new: faults()", x.faults(), 0);
        Check.index("new: fault(0)", () -> x.fault(0));
        Check.argument("new: no value to compare", () -> x.equal(0, 0));
        Check.argument("new: no schema to judge by", () -> x.judge(0, 0));
        Check.due("new: first schema", x.schema(), 0);
        Check.argument("new: no value to judge", () -> x.judge(0, 0));
        Check.argument("new: no value with marks", () -> x.marks(0, 0));
        Check.due("new: first value", x.text(1), 0);
        Check.due("new: nothing was judged", x.marks(0, 0), -1);
        for (int p = 0; p < 8; p++) {
            x.rule(0, 10, p);
            Check.due("new: pattern without items, not bound", x.judge(0, 0), true);
        }
        SchemaJudge other = new SchemaJudge();
        Check.due("new: objects share nothing", other.make(0), 0);
        Check.due("new: objects share no schemas", other.schema(), 0);
        Check.due("new: a schema without keywords", other.judge(0, 0), true);
        for (int p = 0; p < 8; p++) {
            Check.due("new: first item of pattern " + p, other.item(p, 1, 0), 1);
        }
    }

    private static void make() {
        SchemaJudge x = new SchemaJudge();
        Check.due("make(0)", x.make(0), 0);
        Check.due("make(4)", x.make(4), 1);
        Check.due("make(5)", x.make(5), 2);
        for (int kind : new int[] {-1, 1, 2, 3, 6, 32, Integer.MIN_VALUE, Integer.MAX_VALUE}) {
            Check.argument("make(" + kind + ")", () -> x.make(kind));
        }
        Check.due("make after refusals", x.make(0), 3);
        x.schema();
        for (int v = 0; v < 4; v++) {
            x.rule(0, 0, 1 << new int[] {0, 4, 5, 0}[v]);
            Check.due("kind of value " + v, x.judge(0, v), true);
        }
    }

    private static void truth() {
        SchemaJudge x = new SchemaJudge();
        Check.due("truth(false)", x.truth(false), 0);
        Check.due("truth(true)", x.truth(true), 1);
        Check.due("false and true", x.equal(0, 1), false);
        x.truth(true);
        Check.due("true and true", x.equal(1, 2), true);
        x.truth(false);
        Check.due("false and false", x.equal(0, 3), true);
    }

    private static void number() {
        SchemaJudge x = new SchemaJudge();
        Check.due("number: least", x.number(-99999, -3), 0);
        Check.due("number: most", x.number(99999, 3), 1);
        Check.due("number: 0", x.number(0, 0), 2);
        int[][] none = {{100000, 0}, {-100000, 0}, {0, 4}, {0, -4}, {Integer.MAX_VALUE, 0},
            {Integer.MIN_VALUE, 0}, {1, Integer.MAX_VALUE}, {1, Integer.MIN_VALUE}};
        for (int[] wrong : none) {
            Check.argument("number(" + wrong[0] + ", " + wrong[1] + ")", () -> x.number(wrong[0], wrong[1]));
        }
        Check.due("number after refusals", x.number(1, 1), 3);
    }

    private static void text() {
        SchemaJudge x = new SchemaJudge();
        Check.due("text: no letters", x.text(0), 0);
        Check.due("text: a", x.text(1), 1);
        Check.due("text: d", x.text(4), 2);
        Check.due("text: ba", x.text(7), 3);
        Check.due("text: 8 times d", x.text(390624), 4);
        Check.due("text: 8 times a", x.text(97656), 5);
        int[] none = {5, 10, 25, 26, 27, 30, 250, 251, 78125, 390625, 390626, 488281, 1953124, -1, -6,
            Integer.MIN_VALUE, Integer.MAX_VALUE};
        for (int t : none) {
            Check.argument("text(" + t + ")", () -> x.text(t));
        }
        Check.due("text after refusals", x.text(6), 6);
        x.schema();
        int[] lengths = {0, 1, 1, 2, 8, 8, 2};
        for (int v = 0; v < lengths.length; v++) {
            x.rule(0, 8, lengths[v]);
            x.rule(0, 9, lengths[v]);
            Check.due("length of text " + v, x.judge(0, v), true);
        }
    }

    private static void push() {
        SchemaJudge x = new SchemaJudge();
        x.make(0);
        x.make(4);
        x.make(5);
        x.make(4);
        for (int n = 1; n <= 8; n++) {
            Check.due("push(3, ..): element " + n, x.push(3, n % 3), n);
        }
        Check.state("push: a ninth element", () -> x.push(3, 0));
        Check.state("push: again", () -> x.push(3, 2));
        Check.argument("push: full, but v is not lesser", () -> x.push(3, 3));
        Check.argument("push: full, but v is negative", () -> x.push(3, -1));
        Check.due("push(1, 0)", x.push(1, 0), 1);
        Check.due("push(1, 0) again", x.push(1, 0), 2);
        Check.argument("push: v is the row", () -> x.push(1, 1));
        Check.argument("push: v is greater", () -> x.push(1, 2));
        Check.argument("push: r is nothing", () -> x.push(0, 0));
        Check.argument("push: r has members", () -> x.push(2, 0));
        Check.argument("push: r is not there", () -> x.push(4, 0));
        Check.argument("push: r is negative", () -> x.push(-1, 0));
        Check.argument("push: r is far away", () -> x.push(Integer.MAX_VALUE, 0));
        Check.argument("push: r is far below", () -> x.push(Integer.MIN_VALUE, 0));
        Check.due("push(1, 0) after refusals", x.push(1, 0), 3);
    }

    private static void put() {
        SchemaJudge x = new SchemaJudge();
        x.make(0);
        x.truth(true);
        x.make(4);
        x.make(5);
        x.schema();
        x.rule(0, 14, 1);
        Check.due("put: no members", x.judge(0, 3), false);
        x.put(3, 0, 0);
        x.put(3, 11, 2);
        x.rule(0, 14, 2);
        x.rule(0, 15, 2);
        x.rule(0, 16, 1 | 1 << 11);
        Check.due("put: two members", x.judge(0, 3), true);
        x.put(3, 0, 1);
        Check.due("put: in the place of one", x.judge(0, 3), true);
        x.schema();
        x.rule(1, 1, 1);
        x.named(0, 33, 0, 1);
        Check.due("put: the later one is the member", x.judge(0, 3), true);
        Check.argument("put: name -1", () -> put(x, 3, -1, 0));
        Check.argument("put: name 12", () -> put(x, 3, 12, 0));
        Check.argument("put: v is r", () -> put(x, 3, 1, 3));
        Check.argument("put: v is greater", () -> put(x, 3, 1, 4));
        Check.argument("put: v is negative", () -> put(x, 3, 1, -1));
        Check.argument("put: r is a row", () -> put(x, 2, 1, 0));
        Check.argument("put: r is nothing", () -> put(x, 0, 1, 0));
        Check.argument("put: r is not there", () -> put(x, 4, 1, 0));
        Check.argument("put: r is negative", () -> put(x, -1, 1, 0));
        Check.due("put: refusals change nothing", x.judge(0, 3), true);
        for (int name = 0; name < 12; name++) {
            x.put(3, name, 0);
        }
        x.rule(0, 16, 4095);
        x.named(0, 33, 0, -1);
        x.rule(0, 14, 12);
        x.rule(0, 15, 12);
        Check.due("put: all names", x.judge(0, 3), true);
    }

    private static Object put(SchemaJudge x, int r, int name, int v) {
        x.put(r, name, v);
        return "nothing";
    }

    private static void fortyValues() {
        SchemaJudge x = new SchemaJudge();
        for (int v = 0; v < 40; v++) {
            Check.due("value " + v, v % 2 == 0 ? x.make(4) : x.truth(true), v);
        }
        Check.state("make: 40", () -> x.make(0));
        Check.state("truth: 40", () -> x.truth(true));
        Check.state("number: 40", () -> x.number(1, 1));
        Check.state("text: 40", () -> x.text(1));
        Check.argument("make: 40, and another kind", () -> x.make(3));
        Check.argument("number: 40, and no number", () -> x.number(1, 4));
        Check.argument("text: 40, and no text", () -> x.text(5));
        Check.due("40: still there", x.equal(39, 1), true);
        Check.argument("40: no value", () -> x.equal(40, 1));
        Check.due("40: the last row takes an element", x.push(38, 37), 1);
    }

    private static void equalAtoms() {
        SchemaJudge x = new SchemaJudge();
        x.make(0);
        x.truth(false);
        x.number(0, 0);
        x.text(0);
        x.make(4);
        x.make(5);
        for (int v = 0; v < 6; v++) {
            for (int w = 0; w < 6; w++) {
                Check.due("equal: kinds " + v + " and " + w, x.equal(v, w), v == w);
            }
        }
        x.make(0);
        Check.due("equal: nothing", x.equal(0, 6), true);
        x.truth(true);
        x.number(1, 0);
        x.text(1);
        Check.due("equal: true and 1", x.equal(7, 8), false);
        Check.due("equal: 1 and a", x.equal(8, 9), false);
        x.text(1);
        Check.due("equal: a and a", x.equal(9, 10), true);
        x.text(2);
        Check.due("equal: a and b", x.equal(9, 11), false);
        x.text(6);
        Check.due("equal: a and aa", x.equal(9, 12), false);
    }

    private static void equalNumbers() {
        SchemaJudge x = new SchemaJudge();
        int[][] same = {{5, 0}, {50, -1}, {500, -2}, {5000, -3}};
        for (int[] n : same) {
            x.number(n[0], n[1]);
        }
        x.number(5, 1);
        x.number(-5, 0);
        x.number(5001, -3);
        for (int v = 0; v < 4; v++) {
            for (int w = 0; w < 7; w++) {
                Check.due("equal: 5 and number " + w, x.equal(v, w), w < 4);
                Check.due("equal: number " + w + " and 5", x.equal(w, v), w < 4);
            }
        }
        x.number(99999, 3);
        x.number(99999, 2);
        Check.due("equal: great ones", x.equal(7, 8), false);
        x.number(0, 3);
        x.number(0, -3);
        Check.due("equal: 0", x.equal(9, 10), true);
        // They differ by 2^32 thousandths.
        x.number(4295, 3);
        x.number(32704, -3);
        Check.due("equal: no wrapping", x.equal(11, 12), false);
    }

    private static void equalRows() {
        SchemaJudge x = new SchemaJudge();
        x.number(1, 0);
        x.number(10, -1);
        x.number(2, 0);
        int[][] rows = {{0, 2}, {1, 2}, {2, 0}, {0}, {0, 2, 2}, {2, 2}};
        for (int[] row : rows) {
            int r = x.make(4);
            for (int v : row) {
                x.push(r, v);
            }
        }
        Check.due("equal: rows of equal elements", x.equal(3, 4), true);
        Check.due("equal: the other order", x.equal(3, 5), false);
        Check.due("equal: shorter", x.equal(3, 6), false);
        Check.due("equal: longer", x.equal(3, 7), false);
        Check.due("equal: another first element", x.equal(3, 8), false);
        x.make(4);
        x.make(4);
        x.push(9, 3);
        x.push(10, 4);
        Check.due("equal: rows of rows", x.equal(9, 10), true);
        x.push(10, 5);
        x.push(9, 4);
        Check.due("equal: rows of other rows", x.equal(9, 10), false);
    }

    private static void equalMembers() {
        SchemaJudge x = new SchemaJudge();
        x.number(1, 0);
        x.number(100, -2);
        x.number(3, 0);
        for (int v = 0; v < 5; v++) {
            x.make(5);
        }
        x.put(3, 2, 0);
        x.put(3, 7, 2);
        x.put(4, 7, 2);
        x.put(4, 2, 1);
        x.put(5, 2, 0);
        x.put(6, 2, 2);
        x.put(6, 7, 0);
        x.put(7, 2, 0);
        x.put(7, 8, 2);
        Check.due("equal: members, put in another order", x.equal(3, 4), true);
        Check.due("equal: fewer names", x.equal(3, 5), false);
        Check.due("equal: values of names changed", x.equal(3, 6), false);
        Check.due("equal: another name", x.equal(3, 7), false);
        x.make(4);
        x.push(8, 0);
        x.make(5);
        x.put(9, 0, 0);
        Check.due("equal: a row and members", x.equal(8, 9), false);
        eachNameCounts();
    }

    private static void eachNameCounts() {
        for (int name = 0; name < 12; name++) {
            SchemaJudge x = new SchemaJudge();
            x.make(0);
            x.truth(true);
            x.make(5);
            x.make(5);
            for (int other = 0; other < 12; other++) {
                x.put(2, other, 0);
                x.put(3, other, other == name ? 1 : 0);
            }
            Check.due("equal: another member of name " + name, x.equal(2, 3), false);
            x.put(3, name, 0);
            Check.due("equal: the same member of name " + name, x.equal(2, 3), true);
        }
    }

    private static void equalAfterChanges() {
        SchemaJudge x = new SchemaJudge();
        x.make(0);
        x.make(4);
        x.make(4);
        x.make(5);
        x.make(5);
        x.put(3, 1, 1);
        x.put(4, 1, 2);
        Check.due("equal: before the change", x.equal(3, 4), true);
        x.push(1, 0);
        Check.due("equal: a part's part has changed", x.equal(3, 4), false);
        Check.due("equal: the part has changed", x.equal(1, 2), false);
        x.push(2, 0);
        Check.due("equal: both have changed", x.equal(3, 4), true);
        x.put(4, 1, 0);
        Check.due("equal: another member", x.equal(3, 4), false);
        x.put(3, 1, 0);
        Check.due("equal: again the same", x.equal(3, 4), true);
        Check.due("equal: a value made later", x.equal(x.make(4), 1), false);
    }

    /** Two towers of rows, each of which holds the one below eight times: comparing every part would never end. */
    private static void equalOfSharedParts() {
        SchemaJudge x = new SchemaJudge();
        x.number(1, 0);
        x.number(10, -1);
        for (int v = 2; v < 40; v++) {
            x.make(4);
            for (int n = 0; n < 8; n++) {
                x.push(v, v - 2);
            }
        }
        Check.due("equal: towers", x.equal(38, 39), true);
        Check.due("equal: towers of other heights", x.equal(36, 39), false);
    }

    private static void equalOfNoValue() {
        SchemaJudge x = new SchemaJudge();
        x.make(0);
        for (int v : new int[] {-1, 1, 40, Integer.MIN_VALUE, Integer.MAX_VALUE}) {
            Check.argument("equal(" + v + ", 0)", () -> x.equal(v, 0));
            Check.argument("equal(0, " + v + ")", () -> x.equal(0, v));
        }
    }
}
