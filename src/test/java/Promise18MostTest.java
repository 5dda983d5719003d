/** Promise 18: most. */
public final class Promise18MostTest {

    public static void main(String[] args) throws IllegalAccessException {
        Check.runEach(Promise18MostTest.class);
    }

    private static void most(String text, int due) {
        Check.due("most() of " + text, due, Check.sea(text).most());
    }

    static void noneWithoutCoastsAndIslands() {
        most(".", -9);
        most("r", -9);
        most("r..", -9);
        HalfSea sea = new HalfSea();
        Check.due("most()", -9, sea.most());
        Check.due("none is no refusal", 0, Check.refused(sea));
    }

    static void oneThatMovesNothing() {
        most("A", 0);
        most("rc", 100);
        most("AB", 0);
        most("rB/BA", 100);
    }

    static void oneThatMovesMost() {
        most("AA..B/.....", 400);
        most("AA.B.", 300);
        most("A...b..", 400);
        most(".A", 100);
        most("A/./././././././C/.", 8);
    }

    static void ofSeveralTheFirstByX() {
        most("A..B", 0);
        most("..A.B..", 200);
    }

    static void ofSeveralTheFirstByYAheadOfX() {
        most("..A/A..", 200);
        most(".../..B/B../...", 201);
    }

    static void lastCell() {
        HalfSea sea = Check.sea(Check.greatest('.', '.'));
        sea.grow(1109, 2);
        Check.due("most()", 1109, sea.most());
        sea.grow(1100, 2);
        Check.due("of two that move nothing the first", 1100, sea.most());
    }

    static void greatestSeaOfCoastsAlone() {
        most(Check.greatest('C', 'A'), 0);
        most(Check.greatest('r', 'b'), 100);
    }

    static void isAsMovesTellsIt() {
        HalfSea sea = Check.sea("A..b./..B../c...A", 1, 1, 3, 10);
        int best = -9;
        int bestMoved = -1;
        for (int y = 0; y < 3; y++) {
            for (int x = 0; x < 5; x++) {
                int moved = sea.moves(100 * x + y);
                if (moved > bestMoved) {
                    best = 100 * x + y;
                    bestMoved = moved;
                }
            }
        }
        Check.due("most()", best, sea.most());
    }

    static void changesNothing() {
        HalfSea sea = Refusal.busySea();
        sea.most();
        Refusal.same("most()", sea, Refusal.busySea());
    }
}
