/** Promise 24: meet. */
public final class Promise24MeetTest {

    public static void main(String[] args) throws IllegalAccessException {
        Check.runEach(Promise24MeetTest.class);
    }

    static void leastIsNought() {
        Check.due("a new object", 0, new HalfSea().meet(0, 0));
        Check.due("A.B", 0, Check.sea("A.B").meet(0, 0));
    }

    static void greatestIs120() {
        HalfSea sea = Check.sea(Check.greatest('A', '.'));
        Check.due("meet(119, 0)", 0, sea.meet(119, 0));
        Check.due("meet(120, 0)", -9, sea.meet(120, 0));
        Check.due("meet(0, 120)", -9, sea.meet(0, 120));
        Check.due("meet(120, 120)", -9, sea.meet(120, 120));
        Check.due("no refusal", 0, Check.refused(sea));
    }

    static void asMuchAsToldOrMore() {
        HalfSea sea = Check.sea("A....B");
        Check.due("one less of each", 0, sea.meet(1, 1));
        Check.due("as much", 0, sea.meet(2, 2));
        Check.due("one more for 0", -9, sea.meet(3, 2));
        Check.due("one more for 1", -9, sea.meet(2, 3));
    }

    static void oneAndTheOtherAreNotMixedUp() {
        HalfSea sea = Check.sea("A..B....");
        Check.due("areas 1 and 5", 0, sea.meet(1, 5));
        Check.due("the other way", -9, sea.meet(5, 1));
    }

    static void evenCellsAreNoOnes() {
        HalfSea sea = Check.sea("A.B");
        Check.due("meet(1, 0)", -9, sea.meet(1, 0));
        Check.due("meet(0, 1)", -9, sea.meet(0, 1));
    }

    static void leastNumberOfSeveral() {
        HalfSea sea = Check.sea("A...A/.BBB.");
        sea.rule(0, 3);
        Check.due("meet(0, 0)", 0, sea.meet(0, 0));
        Check.due("meet(0, 1)", 0, sea.meet(0, 1));
        Check.due("meet(1, 0)", 10, sea.meet(1, 0));
        Check.due("meet(3, 0)", 10, sea.meet(3, 0));
        Check.due("meet(4, 0)", -9, sea.meet(4, 0));
        Check.due("meet(3, 1)", -9, sea.meet(3, 1));
    }

    static void byReach() {
        HalfSea sea = Check.sea("A....B", 0, 2, 4, 50);
        Check.due("as it is", 0, sea.meet(3, 1));
        Check.due("half", 1, sea.meet(2, 2));
        Check.due("neither", -9, sea.meet(3, 2));
    }

    static void byWeight() {
        HalfSea sea = Check.sea("A..a..B");
        Check.due("whole", 200, sea.meet(3, 1));
        Check.due("not", 0, sea.meet(2, 2));
        sea.rule(1, 0);
        Check.due("whatever weight is set", 200, sea.meet(3, 1));
        Check.due("half", 100, Check.sea("a.rrBrrrrrAr/rrrrrrrrrrb.").meet(2, 0));
    }

    static void byAllThree() {
        HalfSea sea = Promise21ChosenTest.threeParts();
        Check.due("meet(0, 4)", 211, sea.meet(0, 4));
        Check.due("meet(0, 5)", -9, sea.meet(0, 5));
    }

    static void below() {
        Refusal.due("meet(-1, 0)", -4, sea -> sea.meet(-1, 0));
        Refusal.due("meet(0, -1)", -4, sea -> sea.meet(0, -1));
        Refusal.due("meet(-1, -1)", -4, sea -> sea.meet(-1, -1));
        Refusal.due("meet(least int, 0)", -4, sea -> sea.meet(Integer.MIN_VALUE, 0));
        Refusal.due("meet(0, least int)", -4, sea -> sea.meet(0, Integer.MIN_VALUE));
    }

    static void above() {
        Refusal.due("meet(121, 0)", -6, sea -> sea.meet(121, 0));
        Refusal.due("meet(0, 121)", -6, sea -> sea.meet(0, 121));
        Refusal.due("meet(121, 121)", -6, sea -> sea.meet(121, 121));
        Refusal.due("meet(greatest int, 0)", -6, sea -> sea.meet(Integer.MAX_VALUE, 0));
        Refusal.due("meet(0, greatest int)", -6, sea -> sea.meet(0, Integer.MAX_VALUE));
    }

    static void belowGoesAheadOfAbove() {
        Refusal.due("meet(121, -1)", -4, sea -> sea.meet(121, -1));
        Refusal.due("meet(-1, 121)", -4, sea -> sea.meet(-1, 121));
    }

    static void changesNoRule() {
        HalfSea sea = Refusal.busySea();
        sea.meet(1, 1);
        sea.meet(120, 120);
        Refusal.same("meet", sea, Refusal.busySea());
    }
}
