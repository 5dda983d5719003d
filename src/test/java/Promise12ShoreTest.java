/** Promise 12: shore. */
public final class Promise12ShoreTest {

    public static void main(String[] args) throws IllegalAccessException {
        Check.runEach(Promise12ShoreTest.class);
    }

    private static void shore(String text, int due) {
        Check.due("shore(0) of " + text, due, Check.sea(text).shore(0));
    }

    static void seaBesideByEachSide() {
        shore("A.", 1);
        shore(".A", 1);
        shore("A/.", 1);
        shore("./A", 1);
    }

    static void cornersAreNotBeside() {
        shore("Ar/r.", 0);
        shore("rA/.r", 0);
        shore("r./Ar", 0);
        shore(".r/rA", 0);
    }

    static void aCoastCountsOnce() {
        shore(".A.", 1);
        shore(".../.A./...", 1);
    }

    static void noSeaNoShore() {
        shore("A", 0);
        shore("AB", 0);
        shore("Aa/rA", 0);
        shore(Check.greatest('A', 'A'), 0);
    }

    static void coastsBehindCoastsDoNotCount() {
        shore("AA.", 1);
        shore("BA.", 1);
        shore("AAA/A.A/AAA", 4);
    }

    static void islandsHaveNone() {
        shore("a.", 0);
        shore("a.A", 1);
    }

    static void noCoastNoShore() {
        shore(".", 0);
        shore("B.C", 0);
    }

    static void greatest() {
        String board = Check.lines("A.A.A.A.A.A./.A.A.A.A.A.A", 5);
        shore(board, 60);
        shore(Check.lines("A.AA.AA.AA.A", 10), 80);
    }

    static void linesDoNotGoOnInTheNext() {
        shore("rrrrrrrrrrrA/.rrrrrrrrrrr", 0);
        shore("rrrrrrrrrrr./Arrrrrrrrrrr", 0);
        shore("AA/r.", 1);
    }

    static void eachLandHasItsOwn() {
        HalfSea sea = Check.sea("B.C.C.C");
        Check.due("shore(0)", 0, sea.shore(0));
        Check.due("shore(1)", 1, sea.shore(1));
        Check.due("shore(2)", 3, sea.shore(2));
        sea.rule(0, 1);
        Check.due("inner waters are sea beside", 3, sea.shore(2));
    }

    static void growsAndDrowns() {
        HalfSea sea = Check.sea("A..");
        sea.grow(100, 0);
        Check.due("the coast behind has none", 1, sea.shore(0));
        sea.grow(200, 1);
        Check.due("no sea is left", 0, sea.shore(0));
        sea.drown(200);
        Check.due("sea again", 1, sea.shore(0));
    }

    static void nobody() {
        for (int land : new int[] {3, -1, -2, -3, Integer.MIN_VALUE, Integer.MAX_VALUE}) {
            Refusal.due("shore(" + land + ")", -1, sea -> sea.shore(land));
        }
        Refusal.dueInNew("shore(3)", -1, sea -> sea.shore(3));
    }
}
