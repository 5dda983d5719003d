import java.util.Arrays;

/** Promise 26: judge. */
public final class Promise26JudgeTest {

    public static void main(String[] args) throws IllegalAccessException {
        Check.runEach(Promise26JudgeTest.class);
    }

    private static void judged(HalfSea sea, int due, int... bytes) {
        Check.due("put all", bytes.length, Check.putAll(sea, bytes));
        Check.due("judge of " + Arrays.toString(bytes), due, sea.judge());
        Check.due("the row is empty", 0, sea.count(5));
    }

    static void allRightIsMinus9() {
        HalfSea sea = Check.sea("A...B/....r", 0, 2, 2, 0);
        judged(sea, -9, 9, 0, -2, 1, 9, 0, 0, -3, 1, 9);
    }

    static void othersThanSeaAreNotLookedAt() {
        for (int v = -9; v <= 9; v++) {
            judged(Check.sea("ABCabcr"), -9, v, v, v, v, v, v, v);
        }
    }

    static void eachByteOfACellOfSea() {
        String[] texts = {"A.", "B.", "C.", "A.B", ".."};
        int[] due = {0, 1, 2, -2, -3};
        for (int k = 0; k < texts.length; k++) {
            HalfSea sea = Check.sea(texts[k]);
            for (int v = -9; v <= 9; v++) {
                int[] row = new int[texts[k].length()];
                Arrays.fill(row, due[k]);
                row[1] = v;
                judged(sea, v == due[k] ? -9 : 100, row);
            }
        }
    }

    static void firstWrongOfTwoIsTold() {
        HalfSea sea = Check.sea("A...B/....r", 0, 2, 2, 0);
        judged(sea, 100, 9, 1, 0, 1, 9, 0, 0, -3, 1, 9);
        judged(sea, 1, 9, 0, -2, 1, 9, 1, 0, -3, 0, 9);
        judged(sea, 301, 9, 0, -2, 1, 9, 0, 0, -3, -9, 9);
    }

    static void goesLineByLine() {
        HalfSea sea = Check.sea("A./.B/.C");
        Check.due("whose(100)", -2, sea.whose(100));
        judged(sea, -9, 9, -2, -2, 9, sea.whose(2), 9);
        judged(sea, 100, 9, 0, 0, 9, 9, 9);
        judged(sea, 1, 9, -2, 0, 9, 9, 9);
        judged(sea, 2, 9, -2, -2, 9, 9, 9);
    }

    static void emptyRowIsWrongAtTheFirstCell() {
        judged(new HalfSea(), 0);
        judged(Check.sea("A."), 0);
        judged(Check.sea("r"), 0);
    }

    static void rowTooShortIsWrongWhereItEnds() {
        HalfSea sea = Check.sea("A./.r");
        judged(sea, 100, 0);
        judged(sea, 1, 0, 0);
        judged(sea, 101, 0, 0, 0);
        judged(sea, -9, 0, 0, 0, 0);
    }

    static void wrongCellGoesAheadOfTooShort() {
        judged(Check.sea("A./.r"), 100, 0, 1);
    }

    static void rowTooLongIs9999() {
        judged(Check.sea("A./.r"), 9999, 0, 0, 0, 0, 0);
        judged(new HalfSea(), 9999, -3, -3);
        judged(Check.sea("r"), 9999, 0, 0);
    }

    static void wrongCellGoesAheadOfTooLong() {
        judged(Check.sea("A./.r"), 1, 0, 0, 1, 0, 0);
        judged(new HalfSea(), 0, 0, 0);
    }

    static void greatestSeaAndFullRow() {
        HalfSea sea = Check.sea(Check.greatest('A', '.'));
        int[] row = new int[120];
        judged(sea, -9, row);
        judged(sea, 1109, Arrays.copyOf(row, 119));
        row[119] = 1;
        judged(sea, 1109, row);
    }

    static void fullRowForASmallerSea() {
        judged(Check.sea("A" + ".".repeat(11) + "/............".repeat(8)), 9999, new int[120]);
        judged(Check.sea("A."), 9999, new int[120]);
    }

    static void rowIsEmptyThen() {
        HalfSea sea = Check.sea("A.");
        judged(sea, 100, 0, 1);
        judged(sea, -9, 0, 0);
        judged(sea, 9999, 0, 0, 0);
        judged(sea, 100, 0);
        Check.due("judge of none", 0, sea.judge());
    }

    static void isByTheRulesAsTheyAre() {
        HalfSea sea = Check.sea("A...B/....r", 0, 2, 1, 0);
        judged(sea, 301, 9, 0, -3, 1, 9, 0, -3, -3, 1, 9);
        judged(sea, -9, 9, 0, -3, 1, 9, 0, -3, -3, -3, 9);
    }

    static void changesNothingElse() {
        HalfSea sea = Refusal.busySea();
        HalfSea twin = Refusal.busySea();
        Check.due("judge of the first line", 1, sea.judge());
        Check.putAll(sea, 9, sea.whose(100), sea.whose(200), 9);
        Check.due("no refusal", 0, Check.refused(sea));
        Refusal.same("judge", sea, twin);
    }
}
