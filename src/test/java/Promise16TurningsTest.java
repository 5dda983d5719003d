/** Promise 16: turnings. */
public final class Promise16TurningsTest {

    public static void main(String[] args) throws IllegalAccessException {
        Check.runEach(Promise16TurningsTest.class);
    }

    private static void turnings(String text, int due) {
        Check.due("turnings() of " + text, due, Check.sea(text).turnings());
    }

    static void noneWithoutEvenCells() {
        turnings(".", 0);
        turnings("A..B", 0);
    }

    static void oneCellAloneTurnsNot() {
        turnings("A.B", 0);
    }

    static void straightLinesTurnNot() {
        turnings(Check.lines("A.B", 10), 0);
        turnings("A.A/.../B.B", 0);
    }

    static void cornersAreNotBeside() {
        turnings("A.../..../..../...B", 0);
        turnings("...A/..../..../B...", 0);
    }

    static void eachTurn() {
        turnings("A.B/..r/C.C", 1);
        turnings("A.B/r../C.C", 1);
        turnings("C.C/..r/A.B", 1);
        turnings("C.C/r../A.B", 1);
    }

    /** The first cell has 34 and 34, those beside it 25 and 25; so has the last, with all turned about. */
    static void turnsInTheCorners() {
        String text = "..rrrrB/.rrrrrr/rrrrrrr/rrrrrAr/rrrrrrr/rrrBrrr/Arrrrrr";
        turnings(text, 1);
        turnings(new StringBuilder(text).reverse().toString(), 1);
    }

    static void turnsInTheCornersOfTheGreatestSea() {
        String text = "..rrrrB/.rrrrrr/rrrrrrr/rrrrrAr/rrrrrrr/rrrBrrr/Arrrrrr";
        turnings(Check.amongRocks(text, 0, 0), 1);
        turnings(Check.amongRocks(new StringBuilder(text).reverse().toString(), 5, 3), 1);
    }

    static void atEveryPlace() {
        for (int y = 0; y < 8; y++) {
            for (int x = 0; x < 10; x++) {
                turnings(Check.amongRocks("rBA/A../A.B", x, y), 1);
                turnings(Check.amongRocks("B.A/..A/ABr", x, y), 1);
            }
        }
    }

    static void inXAloneOrInYAloneIsNoTurn() {
        turnings("A.B/r.r/C.C", 0);
        turnings("ArB/.../CrC", 0);
    }

    static void aForkIsOneTurn() {
        HalfSea fork = Check.sea("A.B/.../C.C");
        Check.due("even cells", 4, fork.area(-2));
        Check.due("turnings()", 1, fork.turnings());
    }

    static void severalAreCounted() {
        turnings("A.BrA.B/..rr..r/C.CrC.C", 2);
    }

    static void aTurnMustBeEvenItself() {
        HalfSea sea = Check.sea("A.B/.../C.C");
        sea.grow(101, 0);
        Check.due("a coast at the fork", 0, sea.turnings());
    }

    static void endOfALineIsNotBesideTheNext() {
        turnings("rrrrrrrrrrrA/Arrrrrrrrrr./.rrrrrrrrrrB/Brrrrrrrrrrr", 0);
        turnings("ArrrrrrrrrrA/.BrrrrrrrrB./.BrrrrrrrrB./ArrrrrrrrrrA", 0);
    }
}
