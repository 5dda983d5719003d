/** Promises 5 to 10: rule, inner, near, from, whose, third. */
public final class RulesTest {

    public static void main(String[] args) {
        ruleEdges();
        ruleNobodyFirst();
        innerLines();
        innerOfSeveral();
        innerNobody();
        nearBases();
        nearNobody();
        fromFirst();
        fromNobody();
        whoseByNearness();
        whoseByReach();
        whoseByBend();
        whoseNoSea();
        thirds();
        Check.end();
    }

    private static void ruleEdge(int rule, int least, int greatest, int first) {
        HalfSea sea = new HalfSea();
        String name = "rule(" + rule + ") ";
        Check.due(name + "to the least", first, sea.rule(rule, least));
        Check.due(name + "below", 1000000004, sea.rule(rule, least - 1));
        Check.due(name + "far below", 1000000004, sea.rule(rule, Integer.MIN_VALUE));
        Check.due(name + "to the greatest", least, sea.rule(rule, greatest));
        Check.due(name + "above", 1000000006, sea.rule(rule, greatest + 1));
        Check.due(name + "far above", 1000000006, sea.rule(rule, Integer.MAX_VALUE));
        Check.due(name + "is as it was", greatest, sea.rule(rule, first));
        Check.due(name + "is as at first", first, sea.rule(rule, first));
        Check.due("refusals -4", 2, sea.count(14));
        Check.due("refusals -6", 2, sea.count(16));
    }

    private static void ruleEdges() {
        ruleEdge(0, 0, 9, 0);
        ruleEdge(1, 0, 2, 2);
        ruleEdge(2, 0, 20, 20);
        ruleEdge(3, -50, 50, 0);
    }

    private static void ruleNobodyFirst() {
        HalfSea sea = new HalfSea();
        Check.due("rule(4, 0)", 1000000001, sea.rule(4, 0));
        Check.due("rule(-1, 0)", 1000000001, sea.rule(-1, 0));
        Check.due("rule(4, -999)", 1000000001, sea.rule(4, -999));
        Check.due("rule(4, 999)", 1000000001, sea.rule(4, 999));
        Check.due("rule(least int, 0)", 1000000001, sea.rule(Integer.MIN_VALUE, 0));
        Check.due("refusals -1", 5, sea.count(11));
        Check.due("all refusals", 5, Check.refused(sea));
    }

    private static void innerRow(HalfSea sea, String name, int... due) {
        for (int x = 0; x < due.length; x++) {
            Check.due("inner(" + 100 * x + ") of " + name, due[x], sea.inner(100 * x));
        }
    }

    private static void innerLines() {
        HalfSea sea = Check.sea("A..A.A.B");
        innerRow(sea, "no mouth", -9, -9, -9, -9, -9, -9, -9, -9);
        sea.rule(0, 1);
        innerRow(sea, "mouth 1", -9, -9, -9, -9, 0, -9, -9, -9);
        sea.rule(0, 2);
        innerRow(sea, "mouth 2", -9, 0, 0, -9, 0, -9, -9, -9);
        sea.rule(0, 9);
        innerRow(sea, "mouth 9", -9, 0, 0, -9, 0, -9, -9, -9);
        HalfSea mixed = Check.sea("B.rB.bB.aB..");
        mixed.rule(0, 9);
        innerRow(mixed, "rocks and islands", -9, -9, -9, -9, -9, -9, -9, -9, -9, -9, -9, -9);
        HalfSea columns = Check.sea("C/././C/./B/./C");
        columns.rule(0, 2);
        int[] due = {-9, 2, 2, -9, -9, -9, -9, -9};
        for (int y = 0; y < due.length; y++) {
            Check.due("inner(" + y + ") of a column", due[y], columns.inner(y));
        }
        HalfSea far = Check.sea("A.........A");
        far.rule(0, 9);
        Check.due("nine cells, first", 0, far.inner(100));
        Check.due("nine cells, last", 0, far.inner(900));
        far.rule(0, 8);
        Check.due("nine cells of eight", -9, far.inner(500));
        HalfSea lines = Check.sea("...........A/A...........");
        lines.rule(0, 9);
        Check.due("a line does not go on in the next", -9, lines.inner(1000));
    }

    private static void innerOfSeveral() {
        String[] crossings = {".C./B.B/.C.", ".B./C.C/.B.", ".B./A.A/.B.", ".A./C.C/.A."};
        int[] due = {1, 1, 0, 0};
        for (int k = 0; k < crossings.length; k++) {
            HalfSea sea = Check.sea(crossings[k]);
            sea.rule(0, 1);
            Check.due("inner of " + crossings[k], due[k], sea.inner(101));
            Check.due("whose of " + crossings[k], due[k], sea.whose(101));
        }
        HalfSea lost = Check.sea(".C./B.B/.C.");
        lost.rule(0, 1);
        Check.due("waters of the least are no base of another", 1, lost.near(101, 2));
    }

    private static void innerNobody() {
        HalfSea sea = Check.sea("A.A");
        Check.due("inner(1)", -1, sea.inner(1));
        Check.due("inner(-1)", -1, sea.inner(-1));
        Check.due("inner(300)", -1, sea.inner(300));
        Check.due("refusals -1", 3, sea.count(11));
    }

    private static void nearBases() {
        HalfSea sea = Check.sea("A....a/....../..B...");
        Check.due("coast itself", 0, sea.near(0, 0));
        Check.due("by x and y", 5, sea.near(102, 0));
        Check.due("by x alone", 1, sea.near(302, 1));
        Check.due("other land from a coast", 8, sea.near(0, 1));
        Check.due("island whole", 1, sea.near(400, 0));
        Check.due("none", -9, sea.near(400, 2));
        sea.rule(1, 1);
        Check.due("island half", 4, sea.near(400, 0));
        Check.due("coast nearer than half", 9, sea.near(300, 0));
        Check.due("island itself, half", 0, sea.near(500, 0));
        sea.rule(1, 0);
        Check.due("island none", 16, sea.near(400, 0));
        Check.due("island itself, none", 25, sea.near(500, 0));
        sea.rule(2, 0);
        sea.rule(3, 50);
        Check.due("reach and bend change no near", 16, sea.near(400, 0));
        HalfSea bay = Check.sea("A...A/...../.....");
        Check.due("without inner waters", 8, bay.near(202, 0));
        bay.rule(0, 3);
        Check.due("with inner waters", 4, bay.near(202, 0));
        Check.due("inner waters themselves", 0, bay.near(200, 0));
        HalfSea alone = Check.sea("a.");
        alone.rule(1, 0);
        Check.due("island alone and none", -9, alone.near(100, 0));
        HalfSea rock = Check.sea("Ar");
        Check.due("near of a rock", 1, rock.near(100, 0));
    }

    private static void nearNobody() {
        HalfSea sea = Check.sea("A.");
        Check.due("near(0, 3)", -1, sea.near(0, 3));
        Check.due("near(0, -1)", -1, sea.near(0, -1));
        Check.due("near(0, -2)", -1, sea.near(0, -2));
        Check.due("near(200, 0)", -1, sea.near(200, 0));
        Check.due("near(-1, 9)", -1, sea.near(-1, 9));
        Check.due("refusals -1", 5, sea.count(11));
    }

    private static void fromFirst() {
        HalfSea row = Check.sea("A.A");
        Check.due("the first by x", 0, row.from(100, 0));
        HalfSea corner = Check.sea(".A./A../...");
        Check.due("by y ahead of x", 100, corner.from(101, 0));
        Check.due("itself", 1, corner.from(1, 0));
        Check.due("from the first cell", 100, corner.from(0, 0));
        Check.due("none", -9, corner.from(101, 1));
        HalfSea half = Check.sea("a..A");
        Check.due("nearest", 0, half.from(100, 0));
        half.rule(1, 1);
        Check.due("half as far as a coast", 0, half.from(100, 0));
        Check.due("half farther than a coast", 300, half.from(200, 0));
        half.rule(1, 0);
        Check.due("not counted", 300, half.from(100, 0));
        HalfSea bay = Check.sea("A...A/...../.....");
        bay.rule(0, 3);
        Check.due("inner waters", 200, bay.from(202, 0));
        Check.due("inner waters that come first", 300, bay.from(302, 0));
    }

    private static void fromNobody() {
        HalfSea sea = Check.sea("A.");
        Check.due("from(0, 3)", -1, sea.from(0, 3));
        Check.due("from(0, -1)", -1, sea.from(0, -1));
        Check.due("from(1, 0)", -1, sea.from(1, 0));
        Check.due("refusals -1", 3, sea.count(11));
    }

    private static void whoseRow(HalfSea sea, String name, int... due) {
        for (int x = 0; x < due.length; x++) {
            Check.due("whose(" + 100 * x + ") of " + name, due[x], sea.whose(100 * x));
        }
    }

    private static void whoseByNearness() {
        whoseRow(Check.sea("A...B"), "two coasts", -9, 0, -2, 1, -9);
        whoseRow(Check.sea("A..B...C"), "three coasts", -9, 0, 1, -9, 1, -2, 2, -9);
        whoseRow(Check.sea("..."), "no coast", -3, -3, -3);
        HalfSea island = Check.sea("A..a..B");
        whoseRow(island, "island whole", -9, 0, 0, -9, 0, 1, -9);
        island.rule(1, 1);
        whoseRow(island, "island half", -9, 0, 0, -9, -2, 1, -9);
        island.rule(1, 0);
        whoseRow(island, "island none", -9, 0, 0, -9, 1, 1, -9);
        HalfSea bay = Check.sea("A...A/.BBB.");
        whoseRow(bay, "open bay", -9, -2, 1, -2, -9);
        bay.rule(0, 3);
        whoseRow(bay, "closed bay", -9, 0, 0, 0, -9);
    }

    private static void whoseByReach() {
        HalfSea sea = Check.sea("A....");
        sea.rule(2, 2);
        whoseRow(sea, "reach 2", -9, 0, 0, -3, -3);
        sea.rule(2, 0);
        whoseRow(sea, "reach 0", -9, -3, -3, -3, -3);
        HalfSea half = Check.sea("a...");
        half.rule(1, 1);
        half.rule(2, 3);
        whoseRow(half, "half and reach 3", -9, 0, -3, -3);
        half.rule(2, 4);
        whoseRow(half, "half and reach 4", -9, 0, 0, -3);
        HalfSea bay = Check.sea("A.A.");
        bay.rule(2, 0);
        bay.rule(0, 1);
        whoseRow(bay, "inner waters without reach", -9, 0, -9, -3);
        HalfSea even = Check.sea("A..B");
        even.rule(2, 1);
        whoseRow(even, "one in reach alone", -9, 0, 1, -9);
    }

    private static void whoseByBend() {
        whoseBent("A.B", -2, 0, 1);
        whoseBent("A.C", -2, 0, 2);
        whoseBent("B.C", -2, 2, 1);
        HalfSea sea = Check.sea("A....B");
        sea.rule(3, 50);
        whoseRow(sea, "bend 50", -9, 0, 0, 0, 1, -9);
        sea.rule(2, 2);
        whoseRow(sea, "bend 50 with reach 2", -9, 0, 0, 1, 1, -9);
        HalfSea corner = Check.sea("B../.../C..");
        corner.rule(3, 50);
        Check.due("near 5 times 150 against 5 times 100", 2, corner.whose(201));
    }

    private static void whoseBent(String text, int straight, int above, int below) {
        HalfSea sea = Check.sea(text);
        Check.due(text + " straight", straight, sea.whose(100));
        sea.rule(3, 1);
        Check.due(text + " bent by 1", above, sea.whose(100));
        sea.rule(3, -1);
        Check.due(text + " bent by -1", below, sea.whose(100));
    }

    private static void whoseNoSea() {
        HalfSea sea = Check.sea("Aabr.");
        whoseRow(sea, "no sea", -9, -9, -9, -9);
        Check.due("whose(500)", -10, sea.whose(500));
        Check.due("whose(-1)", -10, sea.whose(-1));
        Check.due("whose(1)", -10, sea.whose(1));
        Check.due("that is no refusal", 0, Check.refused(sea));
    }

    private static void thirds() {
        HalfSea sea = Check.sea(".A./B.C/...");
        Check.due("third", 1, sea.third());
        sea.rule(3, 1);
        Check.due("third when bent", 0, sea.third());
        sea.rule(3, 0);
        sea.rule(2, 0);
        Check.due("third out of reach", 0, sea.third());
        sea.rule(2, 1);
        Check.due("third just in reach", 1, sea.third());
        HalfSea two = Check.sea("A.B");
        Check.due("even of two", 0, two.third());
        HalfSea far = Check.sea("A.B.C");
        Check.due("even of two with a third far off", -2, far.whose(100));
        Check.due("is no third", 0, far.third());
        HalfSea closed = Check.sea(".A./B.C/.A.");
        Check.due("third in an open bay", 1, closed.third());
        closed.rule(0, 1);
        Check.due("third in a closed bay", 0, closed.third());
    }
}
