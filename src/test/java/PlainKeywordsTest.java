/** Promise 14 for the keywords 0 to 16, each alone: of which values it holds. */
public final class PlainKeywordsTest {
    public static void main(String[] args) {
        kind();
        constant();
        enumeration();
        bounds();
        multiple();
        sizesOfTexts();
        sizesOfRows();
        unique();
        sizesOfMembers();
        required();
        otherKinds();
        Check.end();
    }

    /** Whether the keyword holds of the value, seen alone: the answer and the faults say the same. */
    private static void holds(SchemaJudge x, int keyword, int says, int v, boolean due) {
        x.rule(0, keyword, says);
        String call = "keyword " + keyword + " says " + says + ", value " + v;
        Check.due(call, x.judge(0, v), due);
        Check.due(call + ": faults", x.faults(), due ? 0 : 1);
        if (!due) {
            Check.due(call + ": fault", Check.outcome(() -> x.fault(0)), 10000 * v + keyword);
        }
        x.rule(0, keyword, -1);
    }

    /** Values 0 to 5 of kinds 0 to 5, the number being 0; 6 is 2.5, 7 is -3, 8 is 30. */
    private static SchemaJudge kinds() {
        SchemaJudge x = new SchemaJudge();
        x.make(0);
        x.truth(false);
        x.number(0, -3);
        x.text(0);
        x.make(4);
        x.make(5);
        x.number(25, -1);
        x.number(-3000, -3);
        x.number(3, 1);
        x.schema();
        return x;
    }

    private static void kind() {
        SchemaJudge x = kinds();
        for (int v = 0; v < 6; v++) {
            for (int bit = 0; bit < 7; bit++) {
                holds(x, 0, 1 << bit, v, bit == v || v == 2 && bit == 6);
                holds(x, 0, 127 ^ 1 << bit, v, bit != v || v == 2);
            }
            holds(x, 0, 0, v, false);
            holds(x, 0, 127, v, true);
        }
        holds(x, 0, 64, 6, false);
        holds(x, 0, 4, 6, true);
        holds(x, 0, 68, 6, true);
        holds(x, 0, 123, 6, false);
        holds(x, 0, 64, 7, true);
        holds(x, 0, 64, 8, true);
        x.number(1, -3);
        x.number(-1, -1);
        x.number(99999, 3);
        holds(x, 0, 64, 9, false);
        holds(x, 0, 64, 10, false);
        holds(x, 0, 64, 11, true);
    }

    private static void constant() {
        SchemaJudge x = kinds();
        for (int v = 0; v < 9; v++) {
            for (int w = 0; w < 9; w++) {
                holds(x, 1, w, v, v == w);
            }
        }
        x.number(300, -1);
        holds(x, 1, 9, 8, true);
        x.rule(0, 1, 9);
        x.make(4);
        x.rule(0, 1, 10);
        Check.due("constant: an empty row", x.judge(0, 4), true);
        x.push(10, 0);
        Check.due("constant: the row has grown", x.judge(0, 4), false);
        Check.due("constant: itself", x.judge(0, 10), true);
    }

    private static void enumeration() {
        SchemaJudge x = kinds();
        x.number(30, 0);
        x.make(4);
        for (int v = 0; v < 11; v++) {
            holds(x, 2, 10, v, false);
        }
        int[] elements = {9, 4, 9, 0, 7, 4, 5};
        for (int v : elements) {
            x.push(10, v);
        }
        for (int v = 0; v < 11; v++) {
            holds(x, 2, 10, v, v == 8 || v == 9 || v == 4 || v == 0 || v == 7 || v == 5);
        }
        x.rule(0, 2, 10);
        x.push(10, 1);
        Check.due("enumeration: the row has grown to eight", x.judge(0, 1), true);
        x.make(4);
        x.push(11, 3);
        x.push(11, 2);
        holds(x, 2, 11, 3, true);
        holds(x, 2, 11, 2, true);
        holds(x, 2, 11, 1, false);
    }

    private static void bounds() {
        // In order of size; the third and the fourth are of the same size.
        int[][] numbers = {{-99999, 3}, {-1, -3}, {0, 3}, {0, 0}, {1, -3}, {5, 0}, {51, -1}, {99999, 2}, {99999, 3}};
        for (int v = 0; v < numbers.length; v++) {
            SchemaJudge x = new SchemaJudge();
            x.schema();
            for (int[] n : numbers) {
                x.number(n[0], n[1]);
            }
            for (int w = 0; w < numbers.length; w++) {
                int order = Integer.compare(v == 3 ? 2 : v, w == 3 ? 2 : w);
                holds(x, 3, w, v, order >= 0);
                holds(x, 4, w, v, order <= 0);
                holds(x, 5, w, v, order > 0);
                holds(x, 6, w, v, order < 0);
            }
        }
    }

    private static void multiple() {
        multipleOf(5, 0, 25, -1, true);
        multipleOf(6, 0, 25, -1, false);
        multipleOf(0, 0, 7, 0, true);
        multipleOf(-75, -1, 25, -1, true);
        multipleOf(-76, -1, 25, -1, false);
        multipleOf(1, 0, 2, 0, false);
        multipleOf(2, 0, 2, 0, true);
        multipleOf(99999, 3, 1, -3, true);
        multipleOf(99999, 3, 99999, -3, true);
        multipleOf(99998, 3, 99999, -3, false);
        multipleOf(1, -3, 1, -2, false);
        multipleOf(3, -1, 1, -1, true);
        multipleOf(-1, -3, 99999, 3, false);
    }

    private static void multipleOf(int m, int e, int unitM, int unitE, boolean due) {
        SchemaJudge x = new SchemaJudge();
        x.schema();
        x.number(m, e);
        x.number(unitM, unitE);
        holds(x, 7, 1, 0, due);
    }

    private static void sizesOfTexts() {
        SchemaJudge x = new SchemaJudge();
        x.schema();
        int t = 0;
        for (int length = 0; length <= 8; length++) {
            x.text(t);
            t = 5 * t + length % 4 + 1;
        }
        sizes(x, 8, 9, 9, 0);
    }

    private static void sizesOfRows() {
        SchemaJudge x = new SchemaJudge();
        x.schema();
        x.make(0);
        for (int length = 0; length <= 8; length++) {
            int r = x.make(4);
            for (int n = 0; n < length; n++) {
                x.push(r, 0);
            }
        }
        sizes(x, 11, 12, 9, 1);
    }

    private static void sizesOfMembers() {
        SchemaJudge x = new SchemaJudge();
        x.schema();
        x.make(0);
        for (int size = 0; size <= 12; size++) {
            int r = x.make(5);
            for (int n = 0; n < size; n++) {
                x.put(r, 11 - n, 0);
                if (n == 0) {
                    x.put(r, 11, 0);
                }
            }
        }
        sizes(x, 14, 15, 13, 1);
    }

    private static void sizes(SchemaJudge x, int fewest, int most, int count, int first) {
        for (int size = 0; size < count; size++) {
            for (int bound = Math.max(0, size - 1); bound <= Math.min(12, size + 1); bound++) {
                holds(x, fewest, bound, first + size, size >= bound);
                holds(x, most, bound, first + size, size <= bound);
            }
        }
    }

    private static void unique() {
        SchemaJudge x = new SchemaJudge();
        x.schema();
        x.number(1, 0);
        x.number(100, -2);
        x.number(2, 0);
        int[][] rows = {{}, {0}, {0, 2}, {0, 1}, {0, 0}, {2, 0, 1}, {0, 2, 2}, {2, 0, 2}};
        boolean[] differ = {true, true, true, false, false, false, false, false};
        for (int i = 0; i < rows.length; i++) {
            int r = x.make(4);
            for (int v : rows[i]) {
                x.push(r, v);
            }
            holds(x, 13, 1, r, differ[i]);
            holds(x, 13, 0, r, true);
        }
        int r = x.make(4);
        for (int v = 2; v < 9; v++) {
            x.push(r, v);
        }
        // Values 6 and 7 are rows of 1 and 1.
        holds(x, 13, 1, r, false);
    }

    private static void required() {
        SchemaJudge x = new SchemaJudge();
        x.schema();
        x.make(0);
        x.make(5);
        x.put(1, 0, 0);
        x.put(1, 11, 0);
        x.put(1, 4, 0);
        int there = 1 | 1 << 11 | 1 << 4;
        holds(x, 16, 0, 1, true);
        holds(x, 16, there, 1, true);
        holds(x, 16, 4095, 1, false);
        for (int name = 0; name < 12; name++) {
            holds(x, 16, 1 << name, 1, (there >> name & 1) != 0);
            holds(x, 16, there | 1 << name, 1, (there >> name & 1) != 0);
        }
    }

    /** What a keyword says of another kind than named holds. */
    private static void otherKinds() {
        SchemaJudge x = kinds();
        x.number(99999, 3);
        x.number(-99999, 3);
        x.item(0, 1, 0);
        int[][] never = {{3, 9}, {4, 10}, {5, 9}, {6, 10}, {7, 9}, {8, 12}, {10, 0}, {11, 12}, {14, 12}, {16, 4095}};
        int[] kindOf = {2, 2, 2, 2, 2, 3, 3, 4, 5, 5};
        for (int i = 0; i < never.length; i++) {
            for (int v = 0; v < 6; v++) {
                // 0 is a whole number of times any number.
                holds(x, never[i][0], never[i][1], v, v != kindOf[i] || never[i][0] == 7);
            }
        }
        x.make(4);
        x.push(11, 0);
        x.push(11, 0);
        x.make(5);
        x.put(12, 0, 0);
        x.put(12, 1, 0);
        x.text(6);
        int[][] small = {{9, 13}, {12, 11}, {13, 11}, {15, 12}};
        for (int[] of : small) {
            for (int v = 0; v < 14; v++) {
                holds(x, of[0], of[0] == 13 ? 1 : 0, v, v != of[1]);
            }
        }
    }
}
