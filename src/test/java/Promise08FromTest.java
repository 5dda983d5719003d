/** Promise 8: from. */
public final class Promise08FromTest {

    public static void main(String[] args) throws IllegalAccessException {
        Check.runEach(Promise08FromTest.class);
    }

    static void isTheNearestBase() {
        HalfSea sea = Check.sea("A...A..a");
        Check.due("from(100, 0)", 0, sea.from(100, 0));
        Check.due("from(300, 0)", 400, sea.from(300, 0));
        Check.due("from(600, 0)", 700, sea.from(600, 0));
    }

    static void isToldAs100XAndY() {
        HalfSea sea = Check.sea(Check.greatest('B', '.'));
        Check.due("the first cell", 0, sea.from(1109, 1));
        sea.grow(1109, 1);
        Check.due("the last cell", 1109, sea.from(1108, 1));
        sea.grow(9, 0);
        Check.due("the last line", 9, sea.from(1109, 0));
        sea.grow(1100, 2);
        Check.due("the last column", 1100, sea.from(0, 2));
    }

    static void ofSeveralTheFirstByX() {
        Check.due("from(100, 0)", 0, Check.sea("A.A").from(100, 0));
        Check.due("from(200, 0)", 100, Check.sea(".A.A.").from(200, 0));
    }

    static void ofSeveralTheFirstByYAheadOfX() {
        HalfSea sea = Check.sea(".A./A.A/.A.");
        Check.due("of four", 100, sea.from(101, 0));
        sea.drown(100);
        Check.due("of three", 1, sea.from(101, 0));
        sea.drown(1);
        Check.due("of two", 201, sea.from(101, 0));
        sea.drown(201);
        Check.due("of one", 102, sea.from(101, 0));
        Check.due("above and far to the right", 200, Check.sea("..C/.../C..").from(101, 2));
    }

    static void ofSeveralWhateverKind() {
        Check.due("an island ahead of a coast", 0, Check.sea("a.A").from(100, 0));
        Check.due("a coast ahead of an island", 0, Check.sea("A.a").from(100, 0));
        HalfSea half = Check.sea("a..A.", 0, 1, 20, 0);
        Check.due("four times one and two times two", 0, half.from(100, 0));
        Check.due("half, but farther", 300, half.from(200, 0));
        HalfSea behind = Check.sea("A..a", 0, 1, 20, 0);
        Check.due("a coast ahead of an island half as far", 0, behind.from(200, 0));
    }

    static void innerWatersToo() {
        HalfSea bay = Check.sea("A...A/...../.....");
        bay.rule(0, 3);
        Check.due("straight above", 200, bay.from(202, 0));
        Check.due("themselves", 300, bay.from(300, 0));
        Check.due("the coast at the side", 0, bay.from(1, 0));
    }

    static void itselfIfItIsABase() {
        HalfSea sea = Check.sea("AA.c");
        Check.due("a coast", 100, sea.from(100, 0));
        Check.due("an island", 300, sea.from(300, 2));
    }

    static void theLastOf120Bases() {
        HalfSea sea = Check.sea(Check.greatest('C', 'A'));
        Check.due("from(1109, 2)", 0, sea.from(1109, 2));
        HalfSea all = Check.sea(Check.greatest('C', 'C'));
        Check.due("from(1109, 2) of one land", 1109, all.from(1109, 2));
    }

    static void noneWithoutBases() {
        HalfSea sea = Check.sea("A.b");
        Check.due("from(100, 2)", -9, sea.from(100, 2));
        Check.due("from(100, 1)", 200, sea.from(100, 1));
        sea.rule(1, 0);
        Check.due("by weight 0", -9, sea.from(100, 1));
        Check.due("none is no refusal", 0, Check.refused(sea));
    }

    static void noSuchCell() {
        for (int xy : new int[] {3, 400, -1, 10, 99, Integer.MIN_VALUE, Integer.MAX_VALUE}) {
            Refusal.due("from(" + xy + ", 0)", -1, sea -> sea.from(xy, 0));
        }
    }

    static void noSuchLand() {
        for (int land : new int[] {3, -1, -2, -3, Integer.MIN_VALUE, Integer.MAX_VALUE}) {
            Refusal.due("from(0, " + land + ")", -1, sea -> sea.from(0, land));
        }
        Check.due("the greatest land", 2, Refusal.busySea().from(0, 2));
    }

    static void bothWrongIsOneRefusal() {
        Refusal.due("from(-1, 3)", -1, sea -> sea.from(-1, 3));
        Refusal.dueInNew("from(1, -1)", -1, sea -> sea.from(1, -1));
    }
}
