/** Promise 25: put. */
public final class Promise25PutTest {

    public static void main(String[] args) throws IllegalAccessException {
        Check.runEach(Promise25PutTest.class);
    }

    static void leastIsMinus9() {
        HalfSea sea = new HalfSea();
        Check.due("put(-9)", 1, sea.put(-9));
        Check.due("bytes of the row", 1, sea.count(5));
    }

    static void greatestIs9() {
        HalfSea sea = new HalfSea();
        Check.due("put(9)", 1, sea.put(9));
        Check.due("bytes of the row", 1, sea.count(5));
    }

    static void allBetweenAreTaken() {
        HalfSea sea = new HalfSea();
        for (int v = -9; v <= 9; v++) {
            Check.due("put(" + v + ")", v + 10, sea.put(v));
        }
        Check.due("no refusal", 0, Check.refused(sea));
    }

    static void below() {
        for (int v : new int[] {-10, -11, -128, Integer.MIN_VALUE}) {
            Refusal.due("put(" + v + ")", -4, sea -> sea.put(v));
        }
        Refusal.dueInNew("put(-10)", -4, sea -> sea.put(-10));
    }

    static void above() {
        for (int v : new int[] {10, 11, 127, Integer.MAX_VALUE}) {
            Refusal.due("put(" + v + ")", -6, sea -> sea.put(v));
        }
        Refusal.dueInNew("put(10)", -6, sea -> sea.put(10));
    }

    static void rowHas120AtMost() {
        HalfSea sea = new HalfSea();
        for (int k = 1; k <= 120; k++) {
            Check.due("put " + k, k, sea.put(k % 19 - 9));
        }
        Check.due("bytes of the row", 120, sea.count(5));
        Check.due("one more", -6, sea.put(0));
        Check.due("as many as ever", 120, sea.count(5));
    }

    static void fullRowTakesNoByte() {
        Refusal.dueOn(Refusal::withFullRow, "put(0) when full", -6, sea -> sea.put(0));
        Refusal.dueOn(Refusal::withFullRow, "put(-9) when full", -6, sea -> sea.put(-9));
    }

    static void belowGoesAheadOfFull() {
        Refusal.dueOn(Refusal::withFullRow, "put(-10) when full", -4, sea -> sea.put(-10));
    }

    static void aboveWhenFullIsOneRefusal() {
        Refusal.dueOn(Refusal::withFullRow, "put(10) when full", -6, sea -> sea.put(10));
    }

    static void thereIsRoomAfterJudge() {
        HalfSea sea = Refusal.withFullRow();
        Check.due("judge of 120 for 12", 9999, sea.judge());
        Check.due("put(0)", 1, sea.put(0));
    }

    static void bytesStandInTheirOrder() {
        HalfSea sea = Check.sea(".A.B.");
        Check.putAll(sea, 0, 5, -2, 5, 1);
        Check.due("judge()", -9, sea.judge());
    }
}
