/** Promise 31: count. */
public final class Promise31CountTest {

    public static void main(String[] args) throws IllegalAccessException {
        Check.runEach(Promise31CountTest.class);
    }

    static void wideAndHigh() {
        HalfSea least = new HalfSea();
        Check.due("least wide", 1, least.count(0));
        Check.due("least high", 1, least.count(1));
        HalfSea greatest = Check.sea(Check.greatest('A', '.'));
        Check.due("greatest wide", 12, greatest.count(0));
        Check.due("greatest high", 10, greatest.count(1));
        HalfSea other = Check.sea("..../....");
        Check.due("wide", 4, other.count(0));
        Check.due("high", 2, other.count(1));
    }

    static void cellsOfSea() {
        Check.due("none", 0, Check.sea("ABCabcr").count(2));
        Check.due("all", 120, Check.sea(Check.greatest('.', '.')).count(2));
        Check.due("some", 6, Check.sea("A.r/.b./...").count(2));
    }

    static void wells() {
        HalfSea sea = Check.sea("A.");
        Check.due("none", 0, sea.count(3));
        sea.well(100, 99);
        Check.due("one", 1, sea.count(3));
        Check.due("twelve", 12, Refusal.withFullWells().count(3));
    }

    static void bytesOnTheTape() {
        HalfSea sea = new HalfSea();
        Check.due("none", 0, sea.count(4));
        sea.feed(3, 0);
        Check.due("three", 3, sea.count(4));
        Check.due("a full tape", 129, Refusal.withFullTape().count(4));
    }

    static void bytesOfTheRow() {
        HalfSea sea = new HalfSea();
        Check.due("none", 0, sea.count(5));
        sea.put(-9);
        sea.put(0);
        Check.due("two", 2, sea.count(5));
        Check.due("a full row", 120, Refusal.withFullRow().count(5));
    }

    /** Each kind as often as another number, so that none is taken for another. */
    static void refusalsByTheirKinds() {
        HalfSea sea = Check.sea("A.r");
        sea.cell(-1);
        for (int k = 0; k < 2; k++) {
            sea.moves(100);
        }
        for (int k = 0; k < 3; k++) {
            sea.bent(-1);
        }
        for (int k = 0; k < 4; k++) {
            sea.put(10);
        }
        int[] due = {1, 0, 2, 3, 0, 4};
        for (int kind = 0; kind < due.length; kind++) {
            Check.due("count(" + (11 + kind) + ")", due[kind], sea.count(11 + kind));
        }
    }

    static void refusalsOfRuleToo() {
        HalfSea sea = new HalfSea();
        sea.rule(4, 0);
        sea.rule(0, -1);
        sea.rule(0, -1);
        sea.rule(0, 10);
        sea.rule(0, 10);
        sea.rule(0, 10);
        int[] due = {1, 0, 0, 2, 0, 3};
        for (int kind = 0; kind < due.length; kind++) {
            Check.due("count(" + (11 + kind) + ")", due[kind], sea.count(11 + kind));
        }
    }

    /** -9 none, -10 of whose(), -20 and less of read(), -100 of bent() tell something; they refuse nothing. */
    static void answersBelowNoughtAreNoRefusals() {
        HalfSea sea = Check.sea("A..B.");
        Check.due("inner", -9, sea.inner(100));
        Check.due("near", -9, sea.near(100, 2));
        Check.due("from", -9, sea.from(100, 2));
        Check.due("whose of a coast", -9, sea.whose(0));
        Check.due("whose of no cell", -10, sea.whose(-1));
        Check.due("bent", -100, sea.bent(0));
        Check.due("meet", -9, sea.meet(120, 120));
        Check.due("read", -20, sea.read());
        Check.due("count", -9, sea.count(6));
        Check.due("most of none", -9, new HalfSea().most());
        Check.due("a right row", -9, judgeOf(sea));
        for (int what = 11; what <= 16; what++) {
            Check.due("count(" + what + ")", 0, sea.count(what));
        }
    }

    private static int judgeOf(HalfSea sea) {
        Check.putAll(sea, 9, 0, 1, 9, 1);
        return sea.judge();
    }

    static void anotherWhatIsMinus9() {
        HalfSea sea = Refusal.busySea();
        for (int what : new int[] {-1, 6, 7, 8, 9, 10, 17, 18, 100, Integer.MIN_VALUE, Integer.MAX_VALUE}) {
            Check.due("count(" + what + ")", -9, sea.count(what));
        }
        Check.due("that is no refusal", 0, Check.refused(sea));
        Refusal.same("count", sea, Refusal.busySea());
    }

    static void refusalsGoOnOverReadAndOn() {
        HalfSea sea = Check.sea("A.");
        sea.image();
        sea.cell(-1);
        Check.readInto(sea, "B.");
        sea.cell(-1);
        sea.on();
        sea.cell(-1);
        Check.due("refusals -1", 3, sea.count(11));
    }
}
