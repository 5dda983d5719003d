/** Promise 15: pieces. */
public final class Promise15PiecesTest {

    public static void main(String[] args) throws IllegalAccessException {
        Check.runEach(Promise15PiecesTest.class);
    }

    private static void pieces(String text, int even, int due) {
        HalfSea sea = Check.sea(text);
        Check.due("even cells of " + text, even, sea.area(-2));
        Check.due("pieces() of " + text, due, sea.pieces());
    }

    static void noneWithoutEvenCells() {
        pieces(".", 0, 0);
        pieces("A..B", 0, 0);
        pieces("r", 0, 0);
    }

    static void oneCellIsAPiece() {
        pieces("A.B", 1, 1);
        pieces(".A/Br", 1, 1);
        pieces("rA/B.", 1, 1);
    }

    static void hangTogetherBySides() {
        pieces("A.B/.../A.B", 3, 1);
        pieces("A.A/.../B.B", 3, 1);
        pieces(Check.lines("A.B", 10), 10, 1);
    }

    static void hangTogetherByCorners() {
        pieces("...A/..../..../B...", 4, 1);
        pieces("A.../..../..../...B", 4, 1);
    }

    static void hangTogetherEachWay() {
        pieces(".B/C.", 2, 1);
        pieces("B./.A", 2, 1);
        // down from the first, and up again to the last
        pieces(".C./A.A", 3, 1);
    }

    static void twoApartDoNot() {
        pieces("A.BrA.B", 2, 2);
        pieces("A.B/rrr/A.B", 2, 2);
    }

    static void oneCellBetweenParts() {
        pieces(".B./CrA", 2, 2);
        pieces("CC./.AA", 2, 2);
        pieces(".A/BB/.A", 2, 2);
        pieces("C.C./.AAB/B..C", 5, 2);
    }

    static void nothingIsLeftOfAnotherSea() {
        HalfSea sea = Check.sea(Check.lines("A.B", 10));
        Check.due("one long piece", 1, sea.pieces());
        Check.readInto(sea, "A.B/rrr/A.B");
        Check.due("two where it was", 2, sea.pieces());
    }

    static void endOfALineIsNotBesideTheNext() {
        pieces("rrrrrrrrrrrA/Arrrrrrrrrr./.rrrrrrrrrrB/Brrrrrrrrrrr", 2, 2);
    }

    /** Met from the cell at the left first, and from the one at the right first. */
    static void endOfALineIsNotBesideTheNextFromEitherSide() {
        pieces("ArrrrrrrrrrA/.BrrrrrrrrB./.BrrrrrrrrB./ArrrrrrrrrrA", 4, 2);
        pieces("rrrrrrrrrrrA/ArrrrrrrrrB./.BrrrrrrrrB./.BrrrrrrrrrA/Arrrrrrrrrrr", 4, 2);
    }

    static void oneCellAtEveryPlace() {
        for (int y = 0; y < 9; y++) {
            for (int x = 0; x < 11; x++) {
                pieces(Check.amongRocks(".A/Br", x, y), 1, 1);
                pieces(Check.amongRocks("rA/B.", x, y), 1, 1);
            }
        }
    }

    static void twoCellsByACornerAtEveryPlace() {
        for (int y = 0; y < 8; y++) {
            for (int x = 0; x < 10; x++) {
                pieces(Check.amongRocks("rrB/r.r/Ar.", x, y), 2, 1);
                pieces(Check.amongRocks(".rA/r.r/Brr", x, y), 2, 1);
            }
        }
    }

    static void many() {
        pieces("A.BrA.BrA.B" + "/rrrrrrrrrrr/A.BrA.BrA.B".repeat(4), 15, 15);
    }

    static void whicheverTwoAreEven() {
        pieces("A.B.C.A", 3, 3);
        pieces("A.B/.../C.C", 4, 1);
    }

    static void areCountedAnewEachTime() {
        HalfSea sea = Check.sea("A.BrA.B");
        Check.due("once", 2, sea.pieces());
        Check.due("again", 2, sea.pieces());
        sea.rule(3, 1);
        Check.due("bent", 0, sea.pieces());
    }

    static void innerWatersAreNotEven() {
        HalfSea sea = Check.sea("rAr/B.B/rAr");
        Check.due("an open bay", 1, sea.pieces());
        sea.rule(0, 1);
        Check.due("a closed bay", 0, sea.pieces());
    }
}
