/** Promise 27: grow. */
public final class Promise27GrowTest {

    public static void main(String[] args) throws IllegalAccessException {
        Check.runEach(Promise27GrowTest.class);
    }

    static void seaBecomesCoastOfEachLand() {
        HalfSea sea = Check.sea("...");
        for (int land = 0; land < 3; land++) {
            Check.due("grow(" + 100 * land + ", " + land + ")", 1, sea.grow(100 * land, land));
            Check.due("cell", land + 1, sea.cell(100 * land));
            Check.due("cells of sea", 2 - land, sea.count(2));
        }
        Check.due("no refusal", 0, Check.refused(sea));
    }

    static void leastAndGreatestSea() {
        HalfSea least = new HalfSea();
        Check.due("the only cell", 1, least.grow(0, 2));
        Check.due("no sea is left", 0, least.count(2));
        HalfSea greatest = Check.sea(Check.greatest('.', '.'));
        for (int xy : new int[] {0, 1100, 9, 1109}) {
            Check.due("grow(" + xy + ", 1)", 1, greatest.grow(xy, 1));
        }
        Check.due("cells of sea", 116, greatest.count(2));
        Check.due("shore(1)", 4, greatest.shore(1));
    }

    static void wellThereIsNoneAnyMore() {
        HalfSea sea = Check.sea("A..");
        sea.well(100, 5);
        sea.well(200, 6);
        Check.due("grow(100, 1)", 1, sea.grow(100, 1));
        Check.due("wells", 1, sea.count(3));
        Check.due("the other's worth", 6, sea.worth(1));
        Check.due("drown(100)", 2, sea.drown(100));
        Check.due("it does not come back", 1, sea.count(3));
        Check.due("the other's worth to land 0", 6, sea.worth(0));
    }

    static void allWellsThereAreNone() {
        HalfSea sea = Check.sea("A..");
        for (int k = 1; k <= 12; k++) {
            sea.well(k % 2 == 0 ? 100 : 200, k);
        }
        sea.grow(200, 0);
        Check.due("wells", 6, sea.count(3));
        Check.due("the others' worth", 42, sea.worth(0));
        sea.grow(100, 0);
        Check.due("none is left", 0, sea.count(3));
    }

    static void cellWithoutWellTakesNone() {
        HalfSea sea = Check.sea("A..");
        sea.well(100, 5);
        sea.grow(200, 0);
        Check.due("wells", 1, sea.count(3));
        Check.due("worth(0)", 5, sea.worth(0));
    }

    static void noSuchCell() {
        for (int xy : new int[] {3, 400, -1, -100, 10, 99, Integer.MIN_VALUE, Integer.MAX_VALUE}) {
            Refusal.due("grow(" + xy + ", 0)", -1, sea -> sea.grow(xy, 0));
        }
        Refusal.dueInNew("grow(1, 0)", -1, sea -> sea.grow(1, 0));
    }

    static void noSuchLand() {
        for (int land : new int[] {3, -1, -2, Integer.MIN_VALUE, Integer.MAX_VALUE}) {
            Refusal.due("grow(100, " + land + ")", -1, sea -> sea.grow(100, land));
        }
        Refusal.dueInNew("grow(0, 3)", -1, sea -> sea.grow(0, 3));
    }

    static void bothWrongIsOneRefusal() {
        Refusal.due("grow(-1, 3)", -1, sea -> sea.grow(-1, 3));
    }

    static void noSea() {
        Refusal.due("grow on a coast", -3, sea -> sea.grow(0, 0));
        Refusal.due("grow on an island", -3, sea -> sea.grow(300, 1));
        Refusal.due("grow on a rock", -3, sea -> sea.grow(201, 0));
        HalfSea sea = Check.sea("ABCabcr");
        for (int x = 0; x < 7; x++) {
            Check.due("grow(" + 100 * x + ", 0)", -3, sea.grow(100 * x, 0));
            Check.due("it is as it was", x + 1, sea.cell(100 * x));
        }
    }

    static void grownCoastIsNoSea() {
        HalfSea sea = Check.sea("..");
        Check.due("once", 1, sea.grow(100, 2));
        Check.due("again", -3, sea.grow(100, 2));
        Check.due("by another", -3, sea.grow(100, 0));
        Check.due("it is as it was", 3, sea.cell(100));
    }

    static void nobodyGoesAheadOfNoSea() {
        Refusal.due("grow(0, 3)", -1, sea -> sea.grow(0, 3));
        Refusal.due("grow(201, -1)", -1, sea -> sea.grow(201, -1));
    }
}
