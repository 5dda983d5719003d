/** Promise 22: claims. */
public final class Promise22ClaimsTest {

    public static void main(String[] args) throws IllegalAccessException {
        Check.runEach(Promise22ClaimsTest.class);
    }

    static void noughtWithoutLands() {
        Check.due("a new object", 0, new HalfSea().claims());
        Check.due("land 2 alone", 0, Check.sea("C..").claims());
        Check.due("no sea", 0, Check.sea("AB").claims());
    }

    static void noughtIfBothChooseTheSame() {
        Check.due("A..B", 0, Check.sea("A..B").claims());
        Check.due("by mouth 0", 0, Check.sea("A...A/.BBB.").claims());
    }

    static void byMouth() {
        HalfSea sea = Check.sea("A...A/.BBB.");
        sea.rule(0, 3);
        Check.due("claims()", 1, sea.claims());
    }

    static void byReach() {
        Check.due("claims()", 1, Check.sea("A....B", 0, 2, 4, 50).claims());
    }

    static void byWeight() {
        Check.due("claims()", 1, Check.sea("A..a..B").claims());
        Check.due("the first cell alone", 1, Check.sea(".a.B").claims());
        HalfSea set = Check.sea("A..a..B");
        set.rule(1, 0);
        Check.due("whatever weight is set", 1, set.claims());
    }

    static void byAll() {
        Check.due("claims()", 2, Promise21ChosenTest.threeParts().claims());
    }

    /** With the island all but the first column is land 0's, without it all is land 1's. */
    static void greatest() {
        HalfSea sea = Check.sea("Ba.........." + "/............".repeat(9));
        Check.due("claims()", 109, sea.claims());
        Check.due("cells by land 1 alone", 9, countOf(sea, 2));
        Check.due("cells by land 0 alone", 0, countOf(sea, 1));
    }

    private static int countOf(HalfSea sea, int claim) {
        int cells = 0;
        for (int y = 0; y < sea.count(1); y++) {
            for (int x = 0; x < sea.count(0); x++) {
                cells += sea.claimed(100 * x + y) == claim ? 1 : 0;
            }
        }
        return cells;
    }

    static void landTwoDoesNotMatter() {
        HalfSea sea = Check.sea("C..c..B");
        Check.due("lands 2 and 1", 0, sea.claims());
    }

    static void isAsClaimedTellsIt() {
        HalfSea sea = Refusal.busySea();
        Check.due("cells by both", countOf(sea, 3), sea.claims());
        HalfSea wide = Check.sea("A..a..B..b..", 2, 1, 6, 10);
        Check.due("cells by both of another", countOf(wide, 3), wide.claims());
    }

    static void changesNoRule() {
        HalfSea sea = Refusal.busySea();
        sea.claims();
        Refusal.same("claims", sea, Refusal.busySea());
    }
}
