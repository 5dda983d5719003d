/** Promise 11: area. */
public final class Promise11AreaTest {
    private static final int[] OWNERS = {0, 1, 2, -2, -3};

    public static void main(String[] args) throws IllegalAccessException {
        Check.runEach(Promise11AreaTest.class);
    }

    private static void areas(HalfSea sea, String name, int... due) {
        for (int k = 0; k < OWNERS.length; k++) {
            Check.due("area(" + OWNERS[k] + ") of " + name, due[k], sea.area(OWNERS[k]));
        }
    }

    static void tellsLandsEvenAndHighSea() {
        HalfSea sea = Check.sea("A...BrC....");
        areas(sea, "reach 20", 1, 1, 4, 1, 0);
        sea.rule(2, 1);
        areas(sea, "reach 1", 1, 1, 1, 0, 4);
    }

    static void onlySeaIsSharedOut() {
        areas(Check.sea("ABCabcr"), "a sea without sea", 0, 0, 0, 0, 0);
        areas(Check.sea("r"), "a rock", 0, 0, 0, 0, 0);
    }

    static void greatestOfALand() {
        for (int land = 0; land < 3; land++) {
            HalfSea sea = Check.sea(Check.greatest("ABC".charAt(land), '.'));
            Check.due("all but its coast", 119, sea.area(land));
        }
    }

    static void greatestHighSea() {
        areas(Check.sea(Check.greatest('.', '.')), "no land", 0, 0, 0, 0, 120);
    }

    static void greatestEven() {
        areas(Check.sea(Check.lines("ArrrrB", 1) + "/....../......"), "no middle", 6, 6, 0, 0, 0);
        areas(Check.sea(Check.lines("A.B", 10)), "a middle line", 0, 0, 0, 10, 0);
    }

    static void innerWatersAreItsOwn() {
        HalfSea bay = Check.sea("A.A.", 0, 2, 0, 0);
        areas(bay, "an open bay", 0, 0, 0, 0, 2);
        bay.rule(0, 1);
        areas(bay, "a closed bay", 1, 0, 0, 0, 1);
    }

    static void allAreasAreAllCellsOfSea() {
        HalfSea sea = Check.sea("A..b...C/.r...a../B......C/....c...", 2, 1, 3, 20);
        int all = 0;
        for (int owner : OWNERS) {
            all += sea.area(owner);
        }
        Check.due("all areas", sea.count(2), all);
    }

    static void nobody() {
        for (int land : new int[] {3, -1, -4, -9, -10, 4, Integer.MIN_VALUE, Integer.MAX_VALUE}) {
            Refusal.due("area(" + land + ")", -1, sea -> sea.area(land));
        }
        Refusal.dueInNew("area(-1)", -1, sea -> sea.area(-1));
    }
}
