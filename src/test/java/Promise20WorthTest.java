/** Promise 20: worth. */
public final class Promise20WorthTest {

    public static void main(String[] args) throws IllegalAccessException {
        Check.runEach(Promise20WorthTest.class);
    }

    private static HalfSea withWells() {
        HalfSea sea = Check.sea("A...B.C");
        sea.well(100, 7);
        sea.well(200, 11);
        sea.well(300, 13);
        sea.well(500, 17);
        return sea;
    }

    private static void worths(HalfSea sea, String name, int... due) {
        for (int land = 0; land < 3; land++) {
            Check.due("worth(" + land + ") " + name, due[land], sea.worth(land));
        }
    }

    static void noughtWithoutWells() {
        worths(new HalfSea(), "of a new object", 0, 0, 0);
        worths(Check.sea("A...B.C"), "of no wells", 0, 0, 0);
    }

    static void evenCellsAreNoOnes() {
        worths(withWells(), "straight", 7, 13, 0);
    }

    static void highSeaIsNoOnes() {
        HalfSea sea = withWells();
        sea.rule(2, 0);
        worths(sea, "by reach 0", 0, 0, 0);
    }

    static void followsTheBend() {
        HalfSea sea = withWells();
        sea.rule(3, -10);
        worths(sea, "by -10", 7, 13 + 11 + 17, 0);
        sea.rule(3, 10);
        worths(sea, "by 10", 7 + 11, 13, 17);
    }

    static void innerWatersAreItsOwn() {
        HalfSea sea = Check.sea("A.A", 0, 2, 0, 0);
        sea.well(100, 9);
        worths(sea, "by mouth 0", 0, 0, 0);
        sea.rule(0, 1);
        worths(sea, "by mouth 1", 9, 0, 0);
    }

    static void greatest() {
        for (int land = 0; land < 3; land++) {
            HalfSea sea = Check.sea("ABC".charAt(land) + ".");
            for (int k = 0; k < 12; k++) {
                sea.well(100, 99);
            }
            Check.due("worth(" + land + ")", 1188, sea.worth(land));
            Check.due("worth of another", 0, sea.worth((land + 1) % 3));
        }
    }

    static void wellsGrownOverAreWorthNothing() {
        HalfSea sea = withWells();
        sea.grow(100, 0);
        worths(sea, "with the first grown over", 11, 13, 0);
        sea.drown(100);
        worths(sea, "and drowned again", 0, 13, 0);
    }

    static void nobody() {
        for (int land : new int[] {3, -1, -2, -3, Integer.MIN_VALUE, Integer.MAX_VALUE}) {
            Refusal.due("worth(" + land + ")", -1, sea -> sea.worth(land));
        }
        Refusal.dueInNew("worth(3)", -1, sea -> sea.worth(3));
    }
}
