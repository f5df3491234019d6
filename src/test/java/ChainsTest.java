/** Promise 14: schemas that lead to themselves in place, and chains of more than 30 judged pairs. */
public final class ChainsTest {
    public static void main(String[] args) {
        leadsToItself();
        leadsOverOthers();
        meetsCircleElsewhere();
        anyOrderOfSchemas();
        anyPlaceOfLists();
        circleWithAStepElsewhere();
        leadsWithoutBeingJudged();
        circleOfAll();
        nothingCountsAfterCircle();
        rowsInRows();
        membersInMembers();
        schemasInPlace();
        eachKeywordIsALink();
        longerWayLater();
        whatIsNotJudgedIsNoLink();
        circleBeforeChain();
        nothingCountsAfterChain();
        manyWays();
        Check.end();
    }

    private static SchemaJudge withSchemas(int count) {
        SchemaJudge x = new SchemaJudge();
        for (int s = 0; s < count; s++) {
            x.schema();
        }
        return x;
    }

    /** Lets schema s lead to t by a keyword of any sort. */
    private static void lead(SchemaJudge x, int s, int keyword, int t) {
        if (keyword >= 33) {
            x.named(s, keyword, 0, t);
        } else if (keyword >= 29) {
            x.list(s, keyword, t);
        } else {
            x.rule(s, keyword, t);
        }
    }

    private static final int[] IN_PLACE = {17, 18, 19, 20, 21, 29, 30, 31, 34};
    private static final int[] ELSEWHERE = {22, 23, 26, 27, 28, 32, 33};

    private static void leadsToItself() {
        for (int keyword : IN_PLACE) {
            SchemaJudge x = withSchemas(2);
            x.make(0);
            lead(x, 1, keyword, 1);
            Check.state("to itself by " + keyword, () -> x.judge(1, 0));
            Check.due("another schema than that by " + keyword, x.judge(0, 0), true);
        }
        for (int keyword : ELSEWHERE) {
            SchemaJudge x = withSchemas(2);
            x.make(0);
            lead(x, 1, keyword, 1);
            Check.due("to itself elsewhere by " + keyword, Check.outcome(() -> x.judge(1, 0)), true);
        }
    }

    private static void leadsOverOthers() {
        for (int first : IN_PLACE) {
            for (int second : IN_PLACE) {
                SchemaJudge x = withSchemas(3);
                x.make(0);
                lead(x, 0, first, 2);
                Check.due("one way by " + first, Check.outcome(() -> x.judge(0, 0)), first != 17);
                lead(x, 2, second, 0);
                Check.state("back by " + second, () -> x.judge(0, 0));
                Check.state("from the other one by " + second, () -> x.judge(2, 0));
                Check.due("not met", x.judge(1, 0), true);
            }
        }
    }

    private static void meetsCircleElsewhere() {
        for (int keyword : ELSEWHERE) {
            SchemaJudge x = withSchemas(4);
            x.make(0);
            lead(x, 0, keyword, 1);
            lead(x, 1, 21, 2);
            lead(x, 2, 21, 3);
            Check.due("no circle behind " + keyword, x.judge(0, 0), true);
            lead(x, 3, 21, 2);
            Check.state("a circle behind " + keyword, () -> x.judge(0, 0));
            x.rule(3, 21, -1);
            Check.due("the circle is taken away", x.judge(0, 0), true);
        }
    }

    /** The way first, second, third, with a circle at the end of it, for all orders of three schemas. */
    private static void anyOrderOfSchemas() {
        for (int way = 0; way < 27; way++) {
            int first = way % 3;
            int second = way / 3 % 3;
            int third = way / 9;
            if (first == second || second == third || first == third) {
                continue;
            }
            SchemaJudge x = withSchemas(3);
            x.make(0);
            x.rule(first, 22, second);
            x.rule(second, 22, third);
            Check.due("no circle at the end", Check.outcome(() -> x.judge(first, 0)), true);
            x.rule(third, 21, third);
            Check.state("a circle at the end", () -> x.judge(first, 0));
            SchemaJudge y = withSchemas(3);
            y.make(0);
            y.rule(first, 21, second);
            y.rule(second, 21, third);
            Check.due("no circle of three", Check.outcome(() -> y.judge(first, 0)), true);
            y.rule(third, 21, first);
            Check.state("a circle of three", () -> y.judge(first, 0));
        }
    }

    private static void anyPlaceOfLists() {
        for (int keyword = 29; keyword <= 32; keyword++) {
            for (int place = 0; place < 3; place++) {
                SchemaJudge x = withSchemas(3);
                x.make(0);
                for (int k = 0; k < 3; k++) {
                    x.list(0, keyword, k == place ? 1 : 2);
                }
                Check.due("no circle by the list " + keyword, Check.outcome(() -> x.judge(0, 0)), keyword != 31);
                x.rule(1, 21, 1);
                Check.state("a circle at place " + place + " of the list " + keyword, () -> x.judge(0, 0));
            }
        }
        for (int name = 0; name < 12; name++) {
            for (int keyword = 33; keyword <= 34; keyword++) {
                SchemaJudge x = withSchemas(2);
                x.make(0);
                x.rule(1, 21, 1);
                x.named(0, keyword, name, 1);
                Check.state("a circle by name " + name + " of " + keyword, () -> x.judge(0, 0));
            }
        }
    }

    private static void circleWithAStepElsewhere() {
        for (int keyword : ELSEWHERE) {
            SchemaJudge x = withSchemas(3);
            x.make(0);
            lead(x, 0, 21, 1);
            lead(x, 1, keyword, 2);
            lead(x, 2, 21, 0);
            for (int s = 0; s < 3; s++) {
                int of = s;
                Check.due("a step elsewhere by " + keyword, Check.outcome(() -> x.judge(of, 0)), true);
            }
        }
    }

    private static void leadsWithoutBeingJudged() {
        SchemaJudge x = withSchemas(2);
        x.make(0);
        x.rule(0, 19, 0);
        Check.state("THEN without IF leads", () -> x.judge(0, 0));
        x.rule(0, 19, -1);
        x.rule(0, 20, 0);
        Check.state("ELSE without IF leads", () -> x.judge(0, 0));
        x.rule(0, 18, 1);
        Check.state("ELSE that is not judged leads", () -> x.judge(0, 0));
        x.rule(0, 20, -1);
        x.named(0, 34, 11, 0);
        Check.state("WITH of a member that is not there leads", () -> x.judge(0, 0));
        x.named(0, 34, 11, -1);
        for (int name = 0; name < 12; name++) {
            x.named(0, 35, name, name % 2);
        }
        x.rule(1, 24, 1);
        x.rule(1, 25, 1);
        x.rule(1, 16, 2);
        Check.due("numbers that are no schemas lead nowhere", Check.outcome(() -> x.judge(0, 0)), true);
    }

    private static void circleOfAll() {
        SchemaJudge x = withSchemas(24);
        x.make(0);
        for (int s = 0; s < 23; s++) {
            x.rule(s, 21, s + 1);
        }
        Check.due("24 schemas in place", Check.outcome(() -> x.judge(0, 0)), true);
        x.rule(23, 21, 0);
        for (int s = 0; s < 24; s++) {
            int of = s;
            Check.state("a circle of 24, from " + s, () -> x.judge(of, 0));
        }
        SchemaJudge y = withSchemas(24);
        y.make(0);
        for (int s = 23; s > 0; s--) {
            y.rule(s, 22, s - 1);
        }
        y.list(0, 29, 0);
        Check.state("a circle 23 steps elsewhere", () -> y.judge(23, 0));
    }

    private static void nothingCountsAfterCircle() {
        SchemaJudge x = withSchemas(2);
        x.make(0);
        x.rule(0, 0, 2);
        Check.due("judged before", x.judge(0, 0), false);
        x.rule(1, 21, 1);
        Check.argument("no value, and a circle", () -> x.judge(1, 1));
        Check.due("that leaves the faults", x.faults(), 1);
        Check.state("a circle", () -> x.judge(1, 0));
        Check.due("no faults after a circle", x.faults(), 0);
        Check.index("no fault after a circle", () -> x.fault(0));
        Check.due("nothing judged after a circle", x.marks(0, 0), -1);
        Check.due("nor that", x.marks(1, 0), -1);
        Check.due("judged again", x.judge(0, 0), false);
        Check.due("its fault", x.fault(0), 0);
    }

    /** Value v is a row that holds value v - 1. */
    private static SchemaJudge nested(int schemas) {
        SchemaJudge x = withSchemas(schemas);
        x.make(4);
        for (int v = 1; v < 40; v++) {
            x.make(4);
            x.push(v, v - 1);
        }
        return x;
    }

    private static void chained(String name, SchemaJudge x, int s, int v, int length) {
        Object due = length <= 30 ? (Object) true : "throws.UnsupportedOperationException";
        Check.due(name + ", a chain of " + length, Check.outcome(() -> x.judge(s, v)), due);
        Check.due(name + ", judged, a chain of " + length, x.marks(s, v) >= 0, length <= 30);
    }

    private static void rowsInRows() {
        SchemaJudge x = nested(1);
        x.rule(0, 22, 0);
        for (int v = 0; v < 40; v++) {
            chained("rows", x, 0, v, v + 1);
        }
    }

    private static void membersInMembers() {
        SchemaJudge x = withSchemas(1);
        x.make(5);
        for (int v = 1; v < 40; v++) {
            x.make(5);
            x.put(v, v % 12, v - 1);
        }
        x.rule(0, 27, 0);
        for (int v = 0; v < 40; v++) {
            chained("members", x, 0, v, v + 1);
        }
    }

    private static void schemasInPlace() {
        SchemaJudge x = nested(24);
        for (int s = 0; s < 23; s++) {
            x.rule(s, 21, s + 1);
        }
        x.rule(23, 22, 18);
        // 24 pairs of value 1 and then 18 to 23 of value 0.
        chained("in place and below", x, 0, 1, 30);
        chained("in place and two below", x, 0, 2, 36);
        chained("from 1 on", x, 1, 1, 29);
        x.rule(23, 22, 17);
        chained("in place and one more below", x, 0, 1, 31);
        chained("from 1 on, one more below", x, 1, 1, 30);
    }

    private static void eachKeywordIsALink() {
        int[] links = {17, 18, 21, 29, 30, 31, 22, 23, 28, 32};
        for (int keyword : links) {
            SchemaJudge x = nested39();
            x.rule(1, 22, 1);
            lead(x, 0, keyword, 1);
            boolean inPlace = keyword != 22 && keyword != 23 && keyword != 28 && keyword != 32;
            int v = inPlace ? 28 : 29;
            Check.due("link " + keyword + " of 30", Check.outcome(() -> x.judge(0, v)), keyword != 17);
            Check.unsupported("link " + keyword + " of 31", () -> x.judge(0, v + 1));
        }
        for (int keyword : new int[] {26, 27, 33, 34}) {
            SchemaJudge x = nested39();
            x.make(5);
            x.put(39, 0, keyword == 34 ? 27 : 28);
            x.rule(1, 22, 1);
            x.named(1, 33, 0, 1);
            lead(x, 0, keyword, 1);
            Check.due("link " + keyword + " of 30", Check.outcome(() -> x.judge(0, 39)), true);
            x.put(39, 0, keyword == 34 ? 28 : 29);
            Check.unsupported("link " + keyword + " of 31", () -> x.judge(0, 39));
        }
        for (int keyword : new int[] {19, 20}) {
            SchemaJudge x = nested39();
            x.rule(1, 22, 1);
            x.rule(2, 0, keyword == 19 ? 127 : 0);
            x.rule(0, 18, 2);
            x.rule(0, keyword, 1);
            Check.due("link " + keyword + " of 30", Check.outcome(() -> x.judge(0, 28)), true);
            Check.unsupported("link " + keyword + " of 31", () -> x.judge(0, 29));
        }
    }

    /** As nested, with three schemas and room for one value more. */
    private static SchemaJudge nested39() {
        SchemaJudge x = withSchemas(3);
        x.make(4);
        for (int v = 1; v < 39; v++) {
            x.make(4);
            x.push(v, v - 1);
        }
        return x;
    }

    /** A pair that is judged first by a short way may be the end of a long one that comes later, or the other way round. */
    private static void longerWayLater() {
        for (int turn = 0; turn < 2; turn++) {
            for (int extra = 0; extra < 2; extra++) {
                SchemaJudge x = withSchemas(24);
                x.make(4);
                for (int v = 1; v < 20; v++) {
                    x.make(4);
                    x.push(v, v - 1);
                }
                x.rule(20, 22, 20);
                // Schema 0 leads straight to 20, and to it over 1 .. 9 or 10.
                x.list(0, 29, turn == 0 ? 20 : 1);
                x.list(0, 29, turn == 0 ? 1 : 20);
                for (int s = 1; s < 9 + extra; s++) {
                    x.rule(s, 21, s + 1);
                }
                x.rule(9 + extra, 21, 20);
                chained("a longer way, turn " + turn, x, 0, 19, 30 + extra);
                chained("the short way", x, 20, 19, 20);
                x.make(4);
                x.push(20, turn == 0 ? 18 : 19);
                x.push(20, turn == 0 ? 19 : 18);
                x.rule(21, 22, 1);
                chained("a longer way for elements, turn " + turn, x, 21, 20, 30 + extra);
            }
        }
    }

    private static void whatIsNotJudgedIsNoLink() {
        SchemaJudge x = nested(4);
        x.rule(1, 22, 1);
        x.rule(2, 0, 0);
        x.rule(0, 18, 3);
        x.rule(0, 20, 1);
        Check.due("ELSE that is not judged", Check.outcome(() -> x.judge(0, 39)), true);
        x.rule(0, 18, -1);
        Check.due("ELSE without IF", Check.outcome(() -> x.judge(0, 39)), true);
        x.rule(0, 18, 2);
        Check.unsupported("ELSE that is judged", () -> x.judge(0, 39));
        x.rule(0, 18, -1);
        x.rule(0, 28, 1);
        x.list(0, 32, 3);
        Check.due("REST with nothing to judge", Check.outcome(() -> x.judge(0, 39)), true);
        x.named(0, 34, 0, 1);
        Check.due("WITH of a member that is not there", Check.outcome(() -> x.judge(0, 39)), true);
        x.named(0, 33, 0, 1);
        Check.due("PROPERTY of a row", Check.outcome(() -> x.judge(0, 39)), true);
    }

    private static void circleBeforeChain() {
        SchemaJudge x = nested(3);
        x.rule(0, 22, 0);
        x.rule(0, 23, 1);
        Check.unsupported("a chain", () -> x.judge(0, 39));
        x.rule(1, 21, 2);
        x.rule(2, 17, 1);
        Check.state("a chain and a circle", () -> x.judge(0, 39));
    }

    private static void nothingCountsAfterChain() {
        SchemaJudge x = nested(2);
        x.rule(1, 0, 1);
        Check.due("judged before", x.judge(1, 0), false);
        x.rule(0, 22, 0);
        x.rule(0, 0, 1);
        Check.unsupported("a chain", () -> x.judge(0, 30));
        Check.due("no faults after a chain", x.faults(), 0);
        Check.index("no fault after a chain", () -> x.fault(0));
        for (int v = 0; v < 40; v++) {
            Check.due("nothing judged after a chain", x.marks(0, v), -1);
            Check.due("nor before it", x.marks(1, v), -1);
        }
        Check.due("judged again", x.judge(0, 29), false);
        Check.due("all of the chain have faults", x.faults(), 59);
        Check.due("the first fault", x.fault(0), 0);
        Check.due("the last fault", x.fault(58), 290022);
    }

    /** Each value holds the one below eight times: judging each way anew would never end. */
    private static void manyWays() {
        SchemaJudge x = withSchemas(3);
        x.make(4);
        for (int v = 1; v < 30; v++) {
            x.make(4);
            for (int n = 0; n < 8; n++) {
                x.push(v, v - 1);
            }
        }
        x.rule(0, 22, 0);
        x.rule(0, 23, 0);
        x.rule(0, 24, 0);
        Check.due("many ways", Check.outcome(() -> x.judge(0, 29)), true);
        Check.due("many ways: marks", x.marks(0, 29), 255);
        x.make(4);
        for (int n = 0; n < 8; n++) {
            x.push(30, 29);
        }
        Check.unsupported("many ways, too long", () -> x.judge(0, 30));
    }
}
