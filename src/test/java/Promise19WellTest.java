/** Promise 19: well. */
public final class Promise19WellTest {

    public static void main(String[] args) throws IllegalAccessException {
        Check.runEach(Promise19WellTest.class);
    }

    static void leastWorthIs1() {
        HalfSea sea = Check.sea("A.");
        Check.due("well(100, 1)", 1, sea.well(100, 1));
        Check.due("worth(0)", 1, sea.worth(0));
    }

    static void greatestWorthIs99() {
        HalfSea sea = Check.sea("A.");
        Check.due("well(100, 99)", 1, sea.well(100, 99));
        Check.due("worth(0)", 99, sea.worth(0));
    }

    static void worthBelow() {
        for (int v : new int[] {0, -1, -99, Integer.MIN_VALUE}) {
            Refusal.due("well(100, " + v + ")", -4, sea -> sea.well(100, v));
        }
        Refusal.dueInNew("well(0, 0)", -4, sea -> sea.well(0, 0));
    }

    static void worthAbove() {
        for (int v : new int[] {100, 101, Integer.MAX_VALUE}) {
            Refusal.due("well(100, " + v + ")", -6, sea -> sea.well(100, v));
        }
        Refusal.dueInNew("well(0, 100)", -6, sea -> sea.well(0, 100));
    }

    static void twelveAtMost() {
        HalfSea sea = Check.sea("A............".substring(0, 12));
        for (int k = 1; k <= 11; k++) {
            Check.due("well " + k, k, sea.well(100 * k, k));
        }
        Check.due("the twelfth", 12, sea.well(100, 12));
        Check.due("wells", 12, sea.count(3));
        Check.due("worth of all", 78, sea.worth(0));
        Check.due("a thirteenth", -6, sea.well(200, 1));
        Check.due("wells as ever", 12, sea.count(3));
    }

    static void thirteenthChangesNothing() {
        Refusal.dueOn(Refusal::withFullWells, "well(100, 1) when full", -6, sea -> sea.well(100, 1));
        Refusal.dueOn(Refusal::withFullWells, "well(100, 99) when full", -6, sea -> sea.well(100, 99));
    }

    static void tooMuchWhenFullIsOneRefusal() {
        Refusal.dueOn(Refusal::withFullWells, "well(100, 100) when full", -6, sea -> sea.well(100, 100));
    }

    static void severalMayStandInOneCell() {
        HalfSea sea = Check.sea("A.");
        for (int k = 1; k <= 12; k++) {
            Check.due("well " + k, k, sea.well(100, 99));
        }
        Check.due("worth of all", 1188, sea.worth(0));
    }

    static void noSuchCell() {
        for (int xy : new int[] {3, 400, -1, -100, 10, 99, Integer.MIN_VALUE, Integer.MAX_VALUE}) {
            Refusal.due("well(" + xy + ", 1)", -1, sea -> sea.well(xy, 1));
        }
        Refusal.dueInNew("well(1, 1)", -1, sea -> sea.well(1, 1));
    }

    static void noSea() {
        Refusal.due("well on a coast", -3, sea -> sea.well(0, 1));
        Refusal.due("well on an island", -3, sea -> sea.well(300, 1));
        Refusal.due("well on a rock", -3, sea -> sea.well(201, 1));
        HalfSea sea = Check.sea("ABCabcr");
        for (int x = 0; x < 7; x++) {
            Check.due("well(" + 100 * x + ", 1)", -3, sea.well(100 * x, 1));
        }
        Check.due("refusals -3", 7, sea.count(13));
    }

    static void noSuchCellGoesAheadOfAll() {
        Refusal.due("well(-1, 0)", -1, sea -> sea.well(-1, 0));
        Refusal.due("well(-1, 100)", -1, sea -> sea.well(-1, 100));
        Refusal.dueOn(Refusal::withFullWells, "well(-1, 1) when full", -1, sea -> sea.well(-1, 1));
    }

    static void noSeaGoesAheadOfTheWorth() {
        Refusal.due("well(0, 0)", -3, sea -> sea.well(0, 0));
        Refusal.due("well(0, 100)", -3, sea -> sea.well(0, 100));
        Refusal.dueOn(Refusal::withFullWells, "well(0, 1) when full", -3, sea -> sea.well(0, 1));
    }

    static void belowGoesAheadOfFull() {
        Refusal.dueOn(Refusal::withFullWells, "well(100, 0) when full", -4, sea -> sea.well(100, 0));
    }

    static void thereIsRoomAfterOneIsGrownOver() {
        HalfSea sea = Refusal.withFullWells();
        Check.due("a cell of wells is grown over", 1, sea.grow(301, 0));
        int left = sea.count(3);
        Check.holds("some are none any more", left < 12);
        Check.due("one more", left + 1, sea.well(100, 1));
    }

    static void everyCellOfSeaIsTaken() {
        HalfSea sea = Check.sea(Check.greatest('.', '.'));
        for (int xy : new int[] {0, 1100, 9, 1109}) {
            Check.holds("well(" + xy + ", 5)", sea.well(xy, 5) > 0);
        }
        Check.due("wells", 4, sea.count(3));
    }

    static void drownedCellIsTaken() {
        HalfSea sea = Check.sea("r");
        Check.due("a rock", -3, sea.well(0, 1));
        sea.drown(0);
        Check.due("a drowned rock", 1, sea.well(0, 1));
    }
}
