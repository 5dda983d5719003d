/** Promise 10: third. */
public final class Promise10ThirdTest {

    public static void main(String[] args) throws IllegalAccessException {
        Check.runEach(Promise10ThirdTest.class);
    }

    static void noneInANewObject() {
        Check.due("third()", 0, new HalfSea().third());
    }

    static void allThreeCountTheSame() {
        Check.due("one cell", 1, Check.sea(".A./B.C/...").third());
        Check.due("two cells", 2, Check.sea(".A.rr.A./B.CrrB.C").third());
    }

    static void twoAreNotEnough() {
        Check.due("two lands", 0, Check.sea("A.B").third());
        HalfSea far = Check.sea("A.B.C");
        Check.due("even of two with a third far off", -2, far.whose(100));
        Check.due("is no third", 0, far.third());
    }

    static void threeOutOfReachAreHighSea() {
        HalfSea sea = Check.sea(".A./B.C/...", 0, 2, 0, 0);
        Check.due("by reach 0", 0, sea.third());
        sea.rule(2, 1);
        Check.due("by reach 1", 1, sea.third());
    }

    static void bendParts() {
        HalfSea sea = Check.sea(".A./B.C/...");
        for (int bend : new int[] {1, -1, 50, -50}) {
            sea.rule(3, bend);
            Check.due("third() by " + bend, 0, sea.third());
        }
    }

    static void innerWatersAreNoEvenCells() {
        HalfSea sea = Check.sea(".A./B.C/.A.");
        Check.due("an open bay", 1, sea.third());
        sea.rule(0, 1);
        Check.due("a closed bay", 0, sea.third());
    }

    static void islandsCountByWeight() {
        HalfSea sea = Check.sea(".A./b.C/...");
        Check.due("whole", 1, sea.third());
        sea.rule(1, 1);
        Check.due("half", 0, sea.third());
        sea.rule(1, 0);
        Check.due("not", 0, sea.third());
    }

    static void isCountedAnewEachTime() {
        HalfSea sea = Check.sea(".A./B.C/...");
        Check.due("once", 1, sea.third());
        Check.due("again", 1, sea.third());
        sea.drown(100);
        Check.due("without a coast", 0, sea.third());
    }
}
