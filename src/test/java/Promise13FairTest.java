/** Promise 13: fair. */
public final class Promise13FairTest {

    public static void main(String[] args) throws IllegalAccessException {
        Check.runEach(Promise13FairTest.class);
    }

    private static void fair(String text, int due) {
        HalfSea sea = Check.sea(text);
        Check.due("fair() of " + text, due, sea.fair());
        Check.due("refusals of it", 0, Check.refused(sea));
    }

    static void noughtWithoutLands() {
        fair(".", 0);
        fair("r", 0);
        fair("C..", 0);
    }

    static void noughtOfOneLand() {
        fair("A...", 0);
        fair("B...", 0);
    }

    static void noughtIfAreasAreAsShores() {
        fair("A....B", 0);
        // areas 58 and 29, shores 2 and 1
        fair("A..........A" + "/............".repeat(8) + "/C..........B", 0);
    }

    static void aboveNoughtIsTooMuchForZero() {
        fair(".A..B", 1);
        // areas 2 and 2, shores 1 and 2
        fair("B..A/B..r", 2);
    }

    static void belowNoughtIsTooLittleForZero() {
        fair(".B..A", -1);
        fair("A..B/A..r", -2);
    }

    static void landWithoutShore() {
        // areas 2 and 1, shores 1 and 0
        fair("A...rB", -1);
        // the other way
        fair("B...rA", 1);
    }

    static void landTwoDoesNotMatter() {
        HalfSea sea = Check.sea("A.rB./rrrrr/C....", 0, 2, 1, 0);
        Check.due("areas 1 and 1", 0, sea.fair());
        Check.due("area of 2", 1, sea.area(2));
        Check.due("shore of 2", 1, sea.shore(2));
        sea.grow(302, 2);
        Check.due("its area is greater", 3, sea.area(2));
        Check.due("its shore is greater", 2, sea.shore(2));
        Check.due("fair() as ever", 0, sea.fair());
    }

    /** All shores of land 1 beside one great area of land 0. */
    static void greatest() {
        String lines = Check.lines("B.B.B.B.B.B.", 1);
        HalfSea sea = Check.sea(lines + "/............".repeat(8) + "/A...........", 0, 2, 20, 50);
        int due = sea.area(0) * 6 - sea.area(1);
        Check.due("fair() by 50", due, sea.fair());
        sea.rule(3, -50);
        Check.due("fair() by -50", sea.area(0) * 6 - sea.area(1), sea.fair());
    }

    static void followsTheBend() {
        HalfSea sea = Check.sea("A....B");
        sea.rule(3, 50);
        Check.due("fair() by 50", 2, sea.fair());
        sea.rule(3, -50);
        Check.due("fair() by -50", -2, sea.fair());
    }
}
