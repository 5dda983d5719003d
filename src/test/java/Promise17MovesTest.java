/** Promise 17: moves. */
public final class Promise17MovesTest {

    public static void main(String[] args) throws IllegalAccessException {
        Check.runEach(Promise17MovesTest.class);
    }

    static void itselfIsNotCounted() {
        Check.due("a coast alone", 0, Check.sea("A").moves(0));
        Check.due("an island alone", 0, Check.sea("c").moves(0));
        Check.due("a coast with one cell", 1, Check.sea("B.").moves(0));
    }

    static void greatestIsAllOtherCells() {
        Check.due("a coast", 119, Check.sea(Check.greatest('C', '.')).moves(0));
        Check.due("an island", 119, Check.sea(Check.greatest('b', '.')).moves(0));
        HalfSea last = Check.sea(Check.greatest('.', '.'));
        last.grow(1109, 0);
        Check.due("the last cell", 119, last.moves(1109));
    }

    static void aCornerOfTheGreatestSea() {
        HalfSea sea = Check.sea("A..........A" + "/............".repeat(8) + "/C..........B");
        Check.due("area(1)", 29, sea.area(1));
        Check.due("without B", 29, sea.moves(1109));
    }

    static void noneMovedIsNought() {
        Check.due("one of two coasts", 0, Check.sea("AA..").moves(0));
        Check.due("no sea", 0, Check.sea("Ar").moves(0));
        Check.due("out of reach", 0, Check.sea("A..", 0, 2, 0, 0).moves(0));
    }

    static void evenCellsMoveToo() {
        HalfSea sea = Check.sea("A...B");
        Check.due("without A", 2, sea.moves(0));
        Check.due("without B", 2, sea.moves(400));
        HalfSea two = Check.sea("A..B");
        Check.due("without A of two", 1, two.moves(0));
        Check.due("without B of two", 1, two.moves(300));
    }

    static void islandsMoveByWeight() {
        HalfSea sea = Check.sea("A..a..B");
        Check.due("whole", 1, sea.moves(300));
        sea.rule(1, 1);
        Check.due("half", 1, sea.moves(300));
        sea.rule(1, 0);
        Check.due("not", 0, sea.moves(300));
    }

    static void baysAreOpened() {
        Check.due("the coast of a bay", 1, Check.sea("A.A.", 1, 2, 0, 0).moves(0));
        HalfSea wider = Check.sea("A.A.A", 3, 2, 0, 0);
        Check.due("a wider bay is closed still", 0, wider.moves(200));
        wider.rule(0, 2);
        Check.due("a wider bay is open", 2, wider.moves(200));
    }

    /** Without the island all between the coasts is sea, and a bay; the island's own cell is not counted. */
    static void baysAreClosed() {
        HalfSea sea = Check.sea("A.b.A", 3, 2, 20, 0);
        Check.due("even without a bay", -2, sea.whose(100));
        Check.due("moves(200)", 2, sea.moves(200));
        sea.rule(0, 2);
        Check.due("by a narrower mouth they are land 0's as well", 2, sea.moves(200));
        sea.rule(2, 0);
        Check.due("without reach they stay high sea", 0, sea.moves(200));
        sea.rule(0, 3);
        Check.due("without reach in a bay", 2, sea.moves(200));
    }

    static void changesNothing() {
        HalfSea sea = Refusal.busySea();
        sea.moves(0);
        sea.moves(202);
        Refusal.same("moves", sea, Refusal.busySea());
    }

    static void nobody() {
        for (int xy : new int[] {3, 400, -1, -100, 10, Integer.MIN_VALUE, Integer.MAX_VALUE}) {
            Refusal.due("moves(" + xy + ")", -1, sea -> sea.moves(xy));
        }
        Refusal.dueInNew("moves(1)", -1, sea -> sea.moves(1));
    }

    static void seaIsNotAsItMustBe() {
        Refusal.due("moves of sea", -3, sea -> sea.moves(100));
        Refusal.dueInNew("moves(0)", -3, sea -> sea.moves(0));
    }

    static void rockIsNotAsItMustBe() {
        Refusal.due("moves of a rock", -3, sea -> sea.moves(201));
    }

    static void everyCoastAndIslandIsTaken() {
        HalfSea sea = Check.sea("ABCabc");
        for (int x = 0; x < 6; x++) {
            Check.due("moves(" + 100 * x + ")", 0, sea.moves(100 * x));
        }
        Check.due("no refusal", 0, Check.refused(sea));
    }
}
