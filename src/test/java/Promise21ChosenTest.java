/** Promise 21: chosen. */
public final class Promise21ChosenTest {

    public static void main(String[] args) throws IllegalAccessException {
        Check.runEach(Promise21ChosenTest.class);
    }

    /** With REACH 4 the three parts do not touch: each is for land 1 by another of the three rules. */
    static HalfSea threeParts() {
        String rocks = "/rrrrrrrrrrrr";
        return Check.sea("A....Brrrrrr" + rocks.repeat(5) + "/B.Brrrrrrbr./rArrrrrrrrrr", 1, 2, 4, 50);
    }

    static void leastNumberIfAllAreAsGood() {
        HalfSea sea = new HalfSea();
        for (int land = 0; land < 3; land++) {
            Check.due("chosen(" + land + ")", 0, sea.chosen(land));
        }
        Check.setRules(sea, 9, 2, 20, 50);
        Check.due("whatever the rules", 0, sea.chosen(0));
    }

    static void weight0() {
        Check.due("an island of another", 0, Check.sea("A..a..B").chosen(1));
    }

    /** The island a takes its cell half, the island b not: (1,0) has 4 and 9, (11,1) has 2 and 4. */
    static void weight1() {
        Check.due("chosen(0)", 100, Check.sea("a.rrBrrrrrAr/rrrrrrrrrrb.").chosen(0));
    }

    static void weight2() {
        HalfSea sea = Check.sea("A..a..B");
        Check.due("its own island", 200, sea.chosen(0));
        sea.rule(1, 0);
        Check.due("whatever weight is set", 200, sea.chosen(0));
        sea.well(500, 9);
        Check.due("no worth either way is by area", 200, sea.chosen(0));
    }

    static void mouthAsItIs() {
        HalfSea sea = Check.sea("A...A/.BBB.");
        sea.rule(0, 3);
        Check.due("the bay's land", 10, sea.chosen(0));
        Check.due("the other", 0, sea.chosen(1));
        sea.rule(0, 2);
        Check.due("a mouth too narrow", 0, sea.chosen(0));
    }

    static void mouthAsItIsForLand1() {
        HalfSea sea = Check.sea("B.B/.A./A../A..");
        sea.rule(0, 1);
        Check.due("chosen(1)", 10, sea.chosen(1));
    }

    static void mouth0HasNo10() {
        HalfSea sea = Check.sea("A...A/.BBB.");
        for (int land = 0; land < 3; land++) {
            Check.due("chosen(" + land + ")", 0, sea.chosen(land));
        }
    }

    static void reachAsItIs() {
        HalfSea sea = Check.sea("A.....", 0, 2, 3, 0);
        Check.due("more reach, more area", 0, sea.chosen(0));
    }

    /** By half a reach of 4 the cell (3,0) is out of land 0's, which the bend has made it. */
    static void reachHalf() {
        HalfSea sea = Check.sea("A....B", 0, 2, 4, 50);
        Check.due("land 0", 0, sea.chosen(0));
        Check.due("land 1", 1, sea.chosen(1));
    }

    static void halfIsCut() {
        HalfSea sea = Check.sea("A....B", 0, 2, 5, 50);
        Check.due("5 is cut to 2", 1, sea.chosen(1));
        sea.rule(2, 3);
        Check.due("3 is cut to 1, which has not (3,0)", 0, sea.chosen(1));
        Check.due("as it is, it is land 0's", 0, sea.whose(300));
    }

    /** Half of 1 is 0, by which no land has more than by 1: the least number, or that of a bay. */
    static void halfOf1IsNeverChosen() {
        HalfSea sea = Check.sea("A.B", 0, 2, 1, 0);
        Check.due("even", 0, sea.chosen(0));
        sea.rule(3, -1);
        Check.due("its own", 0, sea.chosen(1));
        Check.due("a bay", 10, Check.sea("A.A/.B.", 1, 2, 1, 0).chosen(0));
    }

    /** Half of 20 is 10: the cell (11,0) is land 0's no more, which the bend has made it. */
    static void halfOf20Is10() {
        HalfSea sea = Check.sea("Arrrrrrrrrr." + "/rrrrrrrrrrrr".repeat(7) + "/rrrrrrrrrrrB", 0, 2, 20, 50);
        Check.due("121 by 50 is below 64 by 150", 0, sea.whose(1100));
        Check.due("chosen(1)", 1, sea.chosen(1));
        Check.due("chosen(0)", 0, sea.chosen(0));
        sea.rule(2, 0);
        Check.due("half of 0 is 0", 0, sea.chosen(1));
    }

    static void bendAsItIs() {
        HalfSea sea = Check.sea("A.B", 0, 2, 20, 1);
        sea.well(100, 9);
        Check.due("chosen(1)", 0, sea.chosen(1));
        Check.due("no rules have it for land 1", -9, sea.meet(0, 1));
        Check.due("the bend", 1, sea.rule(3, 0));
    }

    static void worthGoesAheadOfArea() {
        // half reach has the cells (3,0) and (3,1) for land 1, full reach (8,0)
        HalfSea sea = Check.sea("A....Brr./A....Brrr", 0, 2, 4, 50);
        // (8,0) is 9 from the coast: in reach 4, not in 2
        Check.due("more area", 1, sea.chosen(1));
        sea.well(800, 2);
        Check.due("worth goes ahead", 0, sea.chosen(1));
        sea.well(300, 2);
        Check.due("worth the same, more area", 1, sea.chosen(1));
        sea.well(800, 1);
        Check.due("worth by one", 0, sea.chosen(1));
    }

    static void areaTheSameIsTheLeastNumber() {
        HalfSea sea = Check.sea("A.b", 3, 2, 20, -1);
        Check.due("by weight 1 or 2 it loses, by 0 all are the same", 0, sea.chosen(0));
        HalfSea own = Check.sea("B...bA..");
        Check.due("by 2, whatever mouth and reach", 200, own.chosen(1));
    }

    static void allThreeTogether() {
        HalfSea sea = threeParts();
        Check.due("chosen(1)", 211, sea.chosen(1));
        Check.due("chosen(0)", 0, sea.chosen(0));
        HalfSea both = Check.sea("A...A.../.BBB..a./.......B");
        both.rule(0, 3);
        Check.due("mouth and island", 210, both.chosen(0));
    }

    static void changesNoRule() {
        HalfSea sea = Refusal.busySea();
        for (int land = 0; land < 3; land++) {
            sea.chosen(land);
        }
        Refusal.same("chosen", sea, Refusal.busySea());
    }

    static void nobody() {
        for (int land : new int[] {3, -1, -2, -3, Integer.MIN_VALUE, Integer.MAX_VALUE}) {
            Refusal.due("chosen(" + land + ")", -1, sea -> sea.chosen(land));
        }
        Refusal.dueInNew("chosen(-1)", -1, sea -> sea.chosen(-1));
    }
}
