/** Promise 4: cell. */
public final class Promise04CellTest {

    public static void main(String[] args) throws IllegalAccessException {
        Check.runEach(Promise04CellTest.class);
    }

    static void tellsEachKindInARow() {
        HalfSea sea = Check.sea(".ABCabcr");
        for (int kind = 0; kind < 8; kind++) {
            Check.due("cell(" + 100 * kind + ")", kind, sea.cell(100 * kind));
        }
    }

    static void tellsEachKindInAColumn() {
        HalfSea sea = Check.sea("./A/B/C/a/b/c/r");
        for (int kind = 0; kind < 8; kind++) {
            Check.due("cell(" + kind + ")", kind, sea.cell(kind));
        }
    }

    static void tellsTheCornersOfTheGreatestSea() {
        HalfSea sea = Check.sea("A..........B" + "/rrrrrrrrrrrr".repeat(8) + "/c..........C");
        Check.due("cell(0)", 1, sea.cell(0));
        Check.due("cell(1100)", 2, sea.cell(1100));
        Check.due("cell(9)", 6, sea.cell(9));
        Check.due("cell(1109)", 3, sea.cell(1109));
        Check.due("cell(1108)", 7, sea.cell(1108));
        Check.due("cell(1009)", 0, sea.cell(1009));
    }

    static void nobodyIsBesideTheLeastSea() {
        for (int xy : new int[] {1, 100, 101, -1, -100}) {
            Refusal.dueInNew("cell(" + xy + ")", -1, sea -> sea.cell(xy));
        }
    }

    static void nobodyIsBesideTheGreatestSea() {
        HalfSea sea = Check.sea(Check.greatest('A', '.'));
        int[] none = {1200, 1201, 1209, 10, 110, 1110, 1210, 1199, 99};
        for (int k = 0; k < none.length; k++) {
            Check.due("cell(" + none[k] + ")", -1, sea.cell(none[k]));
            Check.due("refusals -1", k + 1, sea.count(11));
        }
    }

    /** The busy sea is four wide and three high. */
    static void nobodyIsBesideASea() {
        int[] none = {-1, -100, -99, 3, 9, 10, 99, 103, 303, 400, 402, 1100, 1109, 1200, 10000,
            Integer.MIN_VALUE, Integer.MAX_VALUE};
        for (int xy : none) {
            Refusal.due("cell(" + xy + ")", -1, sea -> sea.cell(xy));
        }
        HalfSea sea = Refusal.busySea();
        Check.due("the last cell", 2, sea.cell(302));
    }

    static void changesNothing() {
        HalfSea sea = Refusal.busySea();
        Check.due("cell(0)", 1, sea.cell(0));
        Check.due("no refusal", 0, Check.refused(sea));
        Refusal.same("cell(0)", sea, Refusal.busySea());
    }
}
