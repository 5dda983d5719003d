/** Promise 28: drown. */
public final class Promise28DrownTest {

    public static void main(String[] args) throws IllegalAccessException {
        Check.runEach(Promise28DrownTest.class);
    }

    static void eachKindBecomesSea() {
        HalfSea sea = Check.sea("ABCabcr.");
        for (int x = 0; x < 7; x++) {
            Check.due("drown(" + 100 * x + ")", x + 1, sea.drown(100 * x));
            Check.due("it is sea", 0, sea.cell(100 * x));
            Check.due("cells of sea", x + 2, sea.count(2));
        }
        Check.due("all is high sea", 8, sea.area(-3));
        Check.due("no refusal", 0, Check.refused(sea));
    }

    static void leastAndGreatestSea() {
        HalfSea least = Check.sea("r");
        Check.due("the only cell", 7, least.drown(0));
        Check.due("it is sea", 1, least.count(2));
        HalfSea greatest = Check.sea(Check.greatest('A', 'c'));
        Check.due("the first cell", 1, greatest.drown(0));
        Check.due("the last cell", 6, greatest.drown(1109));
        Check.due("cells of sea", 2, greatest.count(2));
    }

    static void grownCoastIsDrowned() {
        HalfSea sea = Check.sea(".");
        sea.grow(0, 1);
        Check.due("drown(0)", 2, sea.drown(0));
        Check.due("grown again", 1, sea.grow(0, 0));
        Check.due("drowned again", 1, sea.drown(0));
    }

    static void wellsElsewhereStay() {
        HalfSea sea = Check.sea("r.A");
        sea.well(100, 8);
        sea.drown(0);
        Check.due("wells", 1, sea.count(3));
        Check.due("worth(0)", 8, sea.worth(0));
        Check.due("a well where the rock was", 2, sea.well(0, 4));
    }

    static void nobody() {
        for (int xy : new int[] {3, 400, -1, -100, 10, 99, Integer.MIN_VALUE, Integer.MAX_VALUE}) {
            Refusal.due("drown(" + xy + ")", -1, sea -> sea.drown(xy));
        }
        Refusal.dueInNew("drown(1)", -1, sea -> sea.drown(1));
    }

    static void itIsSea() {
        Refusal.due("drown(100)", -3, sea -> sea.drown(100));
        Refusal.dueInNew("drown(0)", -3, sea -> sea.drown(0));
    }

    static void drownedIsSea() {
        HalfSea sea = Check.sea("B.");
        Check.due("once", 2, sea.drown(0));
        Check.due("again", -3, sea.drown(0));
        Check.due("refusals -3", 1, sea.count(13));
    }
}
