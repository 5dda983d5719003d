/** Promise 6: inner. */
public final class Promise06InnerTest {

    public static void main(String[] args) throws IllegalAccessException {
        Check.runEach(Promise06InnerTest.class);
    }

    private static void row(String text, int mouth, int... due) {
        HalfSea sea = Check.sea(text);
        sea.rule(0, mouth);
        for (int x = 0; x < due.length; x++) {
            Check.due("inner(" + 100 * x + ") of " + text + " by " + mouth, due[x], sea.inner(100 * x));
        }
    }

    /** From no cell to ten between the coasts, each with every mouth. */
    static void asManyAsMouthOrFewerInARow() {
        for (int cells = 1; cells <= 10; cells++) {
            HalfSea sea = Check.sea("B" + ".".repeat(cells) + "B");
            for (int mouth = 0; mouth <= 9; mouth++) {
                sea.rule(0, mouth);
                for (int x = 1; x <= cells; x++) {
                    Check.due(cells + " cells by " + mouth + " at " + x, cells <= mouth ? 1 : -9,
                            sea.inner(100 * x));
                }
            }
        }
    }

    static void asManyAsMouthOrFewerInAColumn() {
        for (int cells = 1; cells <= 8; cells++) {
            HalfSea sea = Check.sea("C" + "/.".repeat(cells) + "/C");
            for (int mouth = 0; mouth <= 9; mouth++) {
                sea.rule(0, mouth);
                for (int y = 1; y <= cells; y++) {
                    Check.due(cells + " cells by " + mouth + " at " + y, cells <= mouth ? 2 : -9,
                            sea.inner(y));
                }
            }
        }
    }

    static void mouth0ClosesNothing() {
        row("A.A..A", 0, -9, -9, -9, -9, -9, -9);
    }

    static void eachBayIsForItself() {
        row("A..A.A.B", 1, -9, -9, -9, -9, 0, -9, -9, -9);
        row("A..A.A.B", 2, -9, 0, 0, -9, 0, -9, -9, -9);
        row("A..A.A.B", 9, -9, 0, 0, -9, 0, -9, -9, -9);
    }

    static void allMustBeSea() {
        for (String between : new String[] {"r", "a", "b", "c", "B", "C"}) {
            row("A." + between + ".A", 9, -9, -9, -9, -9, -9);
            row("A" + between + "A", 9, -9, -9, -9);
        }
    }

    static void coastsMustBeOfOneLand() {
        row("A.B", 9, -9, -9, -9);
        row("B.C", 9, -9, -9, -9);
        row("C.A", 9, -9, -9, -9);
    }

    static void islandsAndRocksCloseNothing() {
        row("a.a", 9, -9, -9, -9);
        row("A.a", 9, -9, -9, -9);
        row("a.A", 9, -9, -9, -9);
        row("r.r", 9, -9, -9, -9);
        row("A.r", 9, -9, -9, -9);
    }

    static void endOfTheSeaClosesNothing() {
        row(".A..", 9, -9, -9, -9, -9);
        HalfSea column = Check.sea("./A/./.");
        column.rule(0, 9);
        for (int y = 0; y < 4; y++) {
            Check.due("inner(" + y + ")", -9, column.inner(y));
        }
    }

    static void lineDoesNotGoOnInTheNext() {
        HalfSea sea = Check.sea("...........A/A...........");
        sea.rule(0, 9);
        for (int xy : new int[] {1000, 0, 101, 1101}) {
            Check.due("inner(" + xy + ")", -9, sea.inner(xy));
        }
        HalfSea near = Check.sea("rrrrrrrrrrA./.Arrrrrrrrrr");
        near.rule(0, 9);
        Check.due("the last of a line", -9, near.inner(1100));
        Check.due("the first of the next", -9, near.inner(1));
    }

    static void slantingLinesCloseNothing() {
        HalfSea sea = Check.sea("A.r/r.r/r.A");
        sea.rule(0, 9);
        Check.due("inner(101)", -9, sea.inner(101));
    }

    static void ofSeveralLandsTheLeastOnes() {
        String[] crossings = {".B./A.A/.B.", ".A./B.B/.A.", ".C./A.A/.C.", ".A./C.C/.A.", ".C./B.B/.C.",
            ".B./C.C/.B."};
        int[] due = {0, 0, 0, 0, 1, 1};
        for (int k = 0; k < crossings.length; k++) {
            HalfSea sea = Check.sea(crossings[k]);
            sea.rule(0, 1);
            Check.due("inner of " + crossings[k], due[k], sea.inner(101));
        }
    }

    static void ofOneLandBothWays() {
        HalfSea sea = Check.sea(".C./C.C/.C.");
        sea.rule(0, 1);
        Check.due("inner(101)", 2, sea.inner(101));
    }

    static void theyAreItsOwn() {
        HalfSea sea = Check.sea("A...A/.BBB.", 3, 2, 0, -50);
        for (int x = 1; x <= 3; x++) {
            Check.due("whose(" + 100 * x + ")", 0, sea.whose(100 * x));
        }
    }

    static void otherKindsAreNoOnes() {
        HalfSea sea = Check.sea("AaArA.A");
        sea.rule(0, 9);
        for (int x = 0; x <= 4; x++) {
            Check.due("inner(" + 100 * x + ")", -9, sea.inner(100 * x));
        }
        Check.due("the sea", 0, sea.inner(500));
    }

    static void baysAtTheLastLines() {
        HalfSea sea = Check.sea(Check.greatest('r', '.'));
        sea.rule(0, 9);
        sea.grow(9, 2);
        sea.grow(1109, 2);
        Check.due("ten cells of the last line", -9, sea.inner(109));
        sea.grow(109, 2);
        Check.due("nine cells of it", 2, sea.inner(209));
        Check.due("the last of them", 2, sea.inner(1009));
        sea.grow(1100, 1);
        sea.grow(1108, 1);
        Check.due("seven cells of the last column", 1, sea.inner(1107));
    }

    static void inARowAtEveryPlace() {
        for (int y = 0; y < 10; y++) {
            for (int x = 1; x < 11; x++) {
                HalfSea sea = Check.sea(Check.amongRocks("C.C", x - 1, y), 1, 2, 20, 0);
                Check.due("inner of " + x + ", " + y, 2, sea.inner(100 * x + y));
            }
        }
    }

    static void inAColumnAtEveryPlace() {
        for (int y = 1; y < 9; y++) {
            for (int x = 0; x < 12; x++) {
                HalfSea sea = Check.sea(Check.amongRocks("B/./B", x, y - 1), 1, 2, 20, 0);
                Check.due("inner of " + x + ", " + y, 1, sea.inner(100 * x + y));
            }
        }
    }

    static void nobody() {
        for (int xy : new int[] {3, 400, -1, -100, 10, Integer.MIN_VALUE, Integer.MAX_VALUE}) {
            Refusal.due("inner(" + xy + ")", -1, sea -> sea.inner(xy));
        }
        Refusal.dueInNew("inner(1)", -1, sea -> sea.inner(1));
    }
}
