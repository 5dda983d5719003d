/** Promise 7: near. */
public final class Promise07NearTest {

    public static void main(String[] args) throws IllegalAccessException {
        Check.runEach(Promise07NearTest.class);
    }

    static void leastIsNoughtAtABase() {
        HalfSea sea = Check.sea("Ab.");
        Check.due("a coast itself", 0, sea.near(0, 0));
        Check.due("an island itself", 0, sea.near(100, 1));
        sea.rule(1, 1);
        Check.due("an island itself, half", 0, sea.near(100, 1));
    }

    static void greatestIsFromCornerToCorner() {
        HalfSea sea = Check.sea(Check.greatest('A', '.'));
        Check.due("near(1109, 0)", 202, sea.near(1109, 0));
        HalfSea half = Check.sea(Check.greatest('c', '.'));
        Check.due("an island whole", 202, half.near(1109, 2));
        half.rule(1, 1);
        Check.due("an island half", 808, half.near(1109, 2));
    }

    static void isTheSquaresOfXAndYTogether() {
        HalfSea sea = Check.sea("A..../...../....B");
        Check.due("by x alone", 9, sea.near(300, 0));
        Check.due("by y alone", 4, sea.near(2, 0));
        Check.due("by both", 5, sea.near(102, 0));
        Check.due("by both, backwards", 10, sea.near(101, 1));
        Check.due("from a coast of another", 20, sea.near(0, 1));
    }

    static void isTheLeastOfAllBases() {
        HalfSea sea = Check.sea("A...A..a");
        Check.due("the first coast", 1, sea.near(100, 0));
        Check.due("the second coast", 1, sea.near(300, 0));
        Check.due("the island", 1, sea.near(600, 0));
    }

    static void everyCellMayBeABase() {
        HalfSea coasts = Check.sea(Check.greatest('A', 'A'));
        HalfSea islands = Check.sea(Check.greatest('C', 'c'));
        for (int xy : new int[] {0, 1100, 9, 1109}) {
            Check.due("near(" + xy + ", 0) of coasts", 0, coasts.near(xy, 0));
            Check.due("near(" + xy + ", 2) of islands", 0, islands.near(xy, 2));
        }
        islands.drown(1109);
        Check.due("near of the only sea", 1, islands.near(1109, 2));
    }

    static void theLastOf120BasesIsAsFarAsItIs() {
        HalfSea sea = Check.sea(Check.greatest('C', 'A'));
        Check.due("near(1109, 2)", 202, sea.near(1109, 2));
        Check.due("near(1100, 2)", 121, sea.near(1100, 2));
        Check.due("near(9, 2)", 81, sea.near(9, 2));
    }

    static void isNoneWithoutBases() {
        HalfSea sea = Check.sea("A.r");
        Check.due("near(100, 0)", 1, sea.near(100, 0));
        Check.due("near(100, 1)", -9, sea.near(100, 1));
        Check.due("near(100, 2)", -9, sea.near(100, 2));
        Check.due("none is no refusal", 0, Check.refused(sea));
    }

    static void weight0IslandsAreNoBases() {
        HalfSea sea = Check.sea("A...a", 0, 0, 20, 0);
        Check.due("near(300, 0)", 9, sea.near(300, 0));
        Check.due("the island itself", 16, sea.near(400, 0));
        HalfSea alone = Check.sea("a.", 0, 0, 20, 0);
        Check.due("an island alone", -9, alone.near(100, 0));
        Check.due("at itself", -9, alone.near(0, 0));
    }

    static void weight1IslandsAreFourTimesAsFar() {
        HalfSea sea = Check.sea("A....a", 0, 1, 20, 0);
        Check.due("near(400, 0)", 4, sea.near(400, 0));
        Check.due("a coast is nearer than half", 9, sea.near(300, 0));
        Check.due("a coast is never half", 1, sea.near(100, 0));
    }

    static void weight2IslandsAreAsCoasts() {
        HalfSea sea = Check.sea("A....a", 0, 2, 20, 0);
        Check.due("near(400, 0)", 1, sea.near(400, 0));
        Check.due("near(300, 0)", 4, sea.near(300, 0));
    }

    static void innerWatersAreBases() {
        HalfSea sea = Check.sea("A...A/...../.....");
        Check.due("by mouth 0", 8, sea.near(202, 0));
        sea.rule(0, 2);
        Check.due("by a mouth too narrow", 8, sea.near(202, 0));
        sea.rule(0, 3);
        Check.due("by mouth 3", 4, sea.near(202, 0));
        Check.due("inner waters themselves", 0, sea.near(200, 0));
        Check.due("inner waters are whole by weight 1", 2, sea.rule(1, 1));
        Check.due("as ever", 4, sea.near(202, 0));
    }

    static void innerWatersAreNoBasesOfAnother() {
        HalfSea sea = Check.sea(".C./B.B/.C.");
        sea.rule(0, 1);
        Check.due("of land 1, whose they are", 0, sea.near(101, 1));
        Check.due("of land 2, that would have them", 1, sea.near(101, 2));
    }

    static void othersAreNoBases() {
        HalfSea sea = Check.sea("r.B.b.c.A");
        Check.due("near(100, 0)", 49, sea.near(100, 0));
    }

    static void reachAndBendChangeNothing() {
        HalfSea sea = Check.sea("A.........B", 0, 2, 0, 50);
        Check.due("near(900, 0)", 81, sea.near(900, 0));
        Check.due("near(100, 1)", 81, sea.near(100, 1));
    }

    static void everyKindOfCellHasOne() {
        HalfSea sea = Check.sea("A.rbC");
        for (int x = 0; x < 5; x++) {
            Check.due("near(" + 100 * x + ", 0)", x * x, sea.near(100 * x, 0));
        }
    }

    static void noSuchCell() {
        for (int xy : new int[] {3, 400, -1, 10, 99, Integer.MIN_VALUE, Integer.MAX_VALUE}) {
            Refusal.due("near(" + xy + ", 0)", -1, sea -> sea.near(xy, 0));
        }
    }

    static void noSuchLand() {
        for (int land : new int[] {3, -1, -2, -3, Integer.MIN_VALUE, Integer.MAX_VALUE}) {
            Refusal.due("near(0, " + land + ")", -1, sea -> sea.near(0, land));
        }
        Check.due("the greatest land", 4, Refusal.busySea().near(0, 2));
    }

    static void bothWrongIsOneRefusal() {
        Refusal.due("near(-1, 3)", -1, sea -> sea.near(-1, 3));
        Refusal.dueInNew("near(1, -1)", -1, sea -> sea.near(1, -1));
    }
}
