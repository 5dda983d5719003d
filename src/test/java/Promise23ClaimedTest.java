/** Promise 23: claimed. */
public final class Promise23ClaimedTest {

    public static void main(String[] args) throws IllegalAccessException {
        Check.runEach(Promise23ClaimedTest.class);
    }

    private static void row(HalfSea sea, int... due) {
        for (int x = 0; x < due.length; x++) {
            Check.due("claimed(" + 100 * x + ")", due[x], sea.claimed(100 * x));
        }
    }

    static void byNoneOneTheOtherAndBoth() {
        row(Check.sea("A....B", 0, 2, 4, 50), 0, 1, 1, 3, 2, 0);
    }

    static void evenCellsAreClaimedByNone() {
        row(Check.sea("A.B"), 0, 0, 0);
    }

    static void highSeaIsClaimedByNone() {
        row(Check.sea("A...B", 0, 2, 1, 0), 0, 1, 0, 2, 0);
        Check.due("of a new object", 0, new HalfSea().claimed(0));
    }

    static void noSeaIsClaimedByNone() {
        row(Check.sea("ABCabcr"), 0, 0, 0, 0, 0, 0, 0);
    }

    static void landTwoClaimsNothing() {
        row(Check.sea("C..A"), 0, 0, 1, 0);
        row(Check.sea("C.."), 0, 0, 0);
    }

    static void eachByItsOwnChosen() {
        row(Check.sea(".a.B"), 3, 0, 2, 0);
        HalfSea bay = Check.sea("A...A/.BBB.");
        bay.rule(0, 3);
        row(bay, 0, 1, 3, 1, 0);
    }

    static void byAllThreeRules() {
        HalfSea sea = Promise21ChosenTest.threeParts();
        row(sea, 0, 1, 1, 3, 2, 0);
        Check.due("the bay", 3, sea.claimed(106));
        Check.due("the island's cell", 2, sea.claimed(1106));
    }

    static void cornersOfTheGreatestSea() {
        HalfSea sea = Check.sea(Check.greatest('A', '.'));
        sea.grow(1109, 1);
        Check.due("beside A", 1, sea.claimed(100));
        Check.due("beside B", 2, sea.claimed(1108));
        Check.due("the third corner", 2, sea.claimed(1100));
        Check.due("the fourth corner", 1, sea.claimed(9));
    }

    static void nobody() {
        for (int xy : new int[] {3, 400, -1, -100, 10, 99, Integer.MIN_VALUE, Integer.MAX_VALUE}) {
            Refusal.due("claimed(" + xy + ")", -1, sea -> sea.claimed(xy));
        }
        Refusal.dueInNew("claimed(1)", -1, sea -> sea.claimed(1));
    }
}
