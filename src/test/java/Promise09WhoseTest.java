/** Promise 9: whose. */
public final class Promise09WhoseTest {

    public static void main(String[] args) throws IllegalAccessException {
        Check.runEach(Promise09WhoseTest.class);
    }

    private static void row(HalfSea sea, String name, int... due) {
        for (int x = 0; x < due.length; x++) {
            Check.due("whose(" + 100 * x + ") of " + name, due[x], sea.whose(100 * x));
        }
    }

    static void isTheNearestLands() {
        row(Check.sea("A...B"), "two coasts", -9, 0, -2, 1, -9);
        row(Check.sea("A..B...C"), "three coasts", -9, 0, 1, -9, 1, -2, 2, -9);
    }

    static void islandsCountByWeight() {
        HalfSea sea = Check.sea("A..a..B");
        row(sea, "island whole", -9, 0, 0, -9, 0, 1, -9);
        sea.rule(1, 1);
        row(sea, "island half", -9, 0, 0, -9, -2, 1, -9);
        sea.rule(1, 0);
        row(sea, "island none", -9, 0, 0, -9, 1, 1, -9);
    }

    static void innerWatersAreTheirLands() {
        HalfSea bay = Check.sea("A...A/.BBB.");
        row(bay, "an open bay", -9, -2, 1, -2, -9);
        bay.rule(0, 3);
        row(bay, "a closed bay", -9, 0, 0, 0, -9);
    }

    static void innerWatersNeedNoReach() {
        row(Check.sea("B.B.", 1, 2, 0, 0), "reach 0", -9, 1, -9, -3);
    }

    static void evenOfTwo() {
        row(Check.sea("A.B"), "0 and 1", -9, -2, -9);
        row(Check.sea("A.C"), "0 and 2", -9, -2, -9);
        row(Check.sea("B.C"), "1 and 2", -9, -2, -9);
    }

    static void evenOfThree() {
        Check.due("whose(101)", -2, Check.sea(".A./B.C/...").whose(101));
    }

    static void twoTheSameButNotLeastAreNotEven() {
        for (int land = 0; land < 3; land++) {
            String others = "ABC".replace("ABC".substring(land, land + 1), "");
            String own = "ABC".substring(land, land + 1);
            HalfSea sea = Check.sea(others.charAt(0) + ".." + own + "./....." + "/" + others.charAt(1) + "....");
            Check.due("whose(201) with " + own + " near", land, sea.whose(201));
            Check.due("near of one other", 5, sea.near(201, others.charAt(0) - 'A'));
            Check.due("near of the other", 5, sea.near(201, others.charAt(1) - 'A'));
        }
    }

    static void evenIsEvenWithAThirdFarOff() {
        row(Check.sea("A.B..C"), "a third", -9, -2, -9, 1, 2, -9);
        row(Check.sea("C..A.B"), "a third ahead", -9, 2, 0, -9, -2, -9);
    }

    static void highSeaWithoutAnyLand() {
        row(Check.sea("..r."), "no coast", -3, -3, -9, -3);
        row(Check.sea("a.b", 0, 0, 20, 0), "islands that do not count", -9, -3, -9);
    }

    static void reachIsTakenAndOneAboveIsNot() {
        for (int reach = 1; reach <= 10; reach++) {
            HalfSea sea = Check.sea("A...........", 0, 2, reach, 0);
            Check.due("whose at reach " + reach, 0, sea.whose(100 * reach));
            Check.due("whose beyond reach " + reach, -3, sea.whose(100 * reach + 100));
        }
    }

    static void reachIsBySquares() {
        HalfSea sea = Check.sea("B...../....../....../....../......", 0, 2, 5, 0);
        Check.due("3 and 4 by reach 5", 1, sea.whose(304));
        Check.due("4 and 3 by reach 5", 1, sea.whose(403));
        Check.due("4 and 4 by reach 5", -3, sea.whose(404));
        Check.due("5 and 1 by reach 5", -3, sea.whose(501));
        sea.rule(2, 4);
        Check.due("3 and 4 by reach 4", -3, sea.whose(304));
        Check.due("2 and 3 by reach 4", 1, sea.whose(203));
        Check.due("3 and 3 by reach 4", -3, sea.whose(303));
    }

    static void reach0HasInnerWatersAlone() {
        row(Check.sea("A.A..B", 1, 2, 0, 0), "reach 0", -9, 0, -9, -3, -3, -9);
    }

    static void reach20HasEveryCoastButNotEveryHalfIsland() {
        HalfSea coast = Check.sea(Check.greatest('C', '.'));
        Check.due("202 of 400", 2, coast.whose(1109));
        HalfSea half = Check.sea(Check.greatest('c', '.'), 0, 1, 20, 0);
        Check.due("400 of 400", 2, half.whose(1000));
        Check.due("404 of 400", -3, half.whose(1001));
        Check.due("400 by 6 and 8", 2, half.whose(608));
    }

    static void reachOfAHalfIslandIsByItsSquare() {
        HalfSea sea = Check.sea("a...", 0, 1, 3, 0);
        row(sea, "16 of 9", -9, 0, -3, -3);
        sea.rule(2, 4);
        row(sea, "16 of 16", -9, 0, 0, -3);
    }

    static void landsOutOfReachDoNotCount() {
        row(Check.sea("A....B", 0, 2, 20, 50), "bend 50", -9, 0, 0, 0, 1, -9);
        row(Check.sea("A....B", 0, 2, 2, 50), "bend 50 by reach 2", -9, 0, 0, 1, 1, -9);
        row(Check.sea("A......B", 0, 2, 3, 28), "even but for reach", -9, 0, 0, 0, 1, 1, 1, -9);
    }

    /** 16 times 72 is 9 times 128. */
    static void evenByBendOf0And1() {
        HalfSea sea = Check.sea("A......B");
        int[] bends = {27, 28, 29};
        int[] due = {1, -2, 0};
        for (int k = 0; k < bends.length; k++) {
            sea.rule(3, bends[k]);
            Check.due("whose(400) by " + bends[k], due[k], sea.whose(400));
            sea.rule(3, -bends[k]);
            Check.due("whose(300) by " + -bends[k], k == 1 ? -2 : 1 - due[k], sea.whose(300));
        }
    }

    /** 25 times 64 is 16 times 100. */
    static void evenByBendOf0And2() {
        HalfSea sea = Check.sea("A........C");
        int[] bends = {35, 36, 37};
        int[] due = {2, -2, 0};
        for (int k = 0; k < bends.length; k++) {
            sea.rule(3, bends[k]);
            Check.due("whose(500) by " + bends[k], due[k], sea.whose(500));
        }
    }

    /** 25 times 144 is 36 times 100. */
    static void evenByBendOf1And2() {
        HalfSea sea = Check.sea("B..........C");
        int[] bends = {43, 44, 45};
        int[] due = {1, -2, 2};
        for (int k = 0; k < bends.length; k++) {
            sea.rule(3, bends[k]);
            Check.due("whose(500) by " + bends[k], due[k], sea.whose(500));
        }
    }

    static void bendByOneMovesAnEvenCell() {
        bent("A.B", 0, 1);
        bent("A.C", 0, 2);
        bent("B.C", 2, 1);
    }

    private static void bent(String text, int above, int below) {
        HalfSea sea = Check.sea(text);
        sea.rule(3, 1);
        Check.due(text + " bent by 1", above, sea.whose(100));
        sea.rule(3, -1);
        Check.due(text + " bent by -1", below, sea.whose(100));
    }

    /** By 50 land 0 counts 50 and land 1 150, by -50 the other way; land 2 always 100. */
    static void bendGreatestAndLeast() {
        HalfSea sea = Check.sea("A....B", 0, 2, 20, 50);
        row(sea, "bend 50", -9, 0, 0, 0, 1, -9);
        sea.rule(3, -50);
        row(sea, "bend -50", -9, 0, 1, 1, 1, -9);
        // 16 by 50 is below 9 by 100, 25 by 50 above 4 by 100
        HalfSea third = Check.sea("A......C", 0, 2, 20, 50);
        row(third, "bend 50 of 0 and 2", -9, 0, 0, 0, 0, 2, 2, -9);
        HalfSea second = Check.sea("B......C", 0, 2, 20, 50);
        row(second, "bend 50 of 1 and 2", -9, 1, 1, 1, 2, 2, 2, -9);
        second.rule(3, -50);
        row(second, "bend -50 of 1 and 2", -9, 1, 1, 1, 1, 2, 2, -9);
    }

    static void noSeaIsNoOnes() {
        row(Check.sea("ABCabcr."), "all kinds", -9, -9, -9, -9, -9, -9, -9, 2);
    }

    static void noSuchCellIsNoRefusal() {
        HalfSea sea = Refusal.busySea();
        for (int xy : new int[] {3, 400, -1, -100, 10, 99, 1200, Integer.MIN_VALUE, Integer.MAX_VALUE}) {
            Check.due("whose(" + xy + ")", -10, sea.whose(xy));
        }
        Check.due("all refusals", 0, Check.refused(sea));
        Refusal.same("whose() of no cell", sea, Refusal.busySea());
        Check.due("of a new object", -10, new HalfSea().whose(1));
    }
}
