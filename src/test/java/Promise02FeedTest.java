/** Promise 2: feed. */
public final class Promise02FeedTest {

    public static void main(String[] args) throws IllegalAccessException {
        Check.runEach(Promise02FeedTest.class);
    }

    private static HalfSea fedTo(int length) {
        HalfSea sea = new HalfSea();
        for (int fed = 0; fed < length; fed += 8) {
            sea.feed(Math.min(8, length - fed), 0x2E2E2E2E2E2E2E2EL);
        }
        Check.due("a tape of " + length, length, sea.count(4));
        return sea;
    }

    static void leastIsOneByte() {
        HalfSea sea = new HalfSea();
        Check.due("feed(1)", 1, sea.feed(1, 'A'));
        Check.due("bytes on the tape", 1, sea.count(4));
    }

    static void greatestIsEightBytes() {
        HalfSea sea = new HalfSea();
        Check.due("feed(8)", 8, sea.feed(8, 0x722E2E2E2E2E2E41L));
        Check.due("read", 8, sea.read());
        Check.due("the first byte", 1, sea.cell(0));
        Check.due("the eighth byte", 7, sea.cell(700));
    }

    static void eachNumberOfBytesIsAdded() {
        HalfSea sea = new HalfSea();
        int length = 0;
        for (int n = 1; n <= 8; n++) {
            length += n;
            Check.due("feed(" + n + ")", length, sea.feed(n, -1L));
        }
    }

    static void noByteIsBelow() {
        Refusal.due("feed(0)", -4, sea -> sea.feed(0, 'A'));
        Refusal.due("feed(-1)", -4, sea -> sea.feed(-1, 'A'));
        Refusal.due("feed(least int)", -4, sea -> sea.feed(Integer.MIN_VALUE, 'A'));
        Refusal.dueInNew("feed(0)", -4, sea -> sea.feed(0, 'A'));
    }

    static void nineBytesAreTooMany() {
        Refusal.due("feed(9)", -6, sea -> sea.feed(9, 'A'));
        Refusal.due("feed(greatest int)", -6, sea -> sea.feed(Integer.MAX_VALUE, 'A'));
        Refusal.dueInNew("feed(9)", -6, sea -> sea.feed(9, 'A'));
    }

    static void lowestByteComesFirst() {
        HalfSea sea = new HalfSea();
        sea.feed(3, 'A' | 'b' << 8 | 'r' << 16);
        Check.due("read", 3, sea.read());
        Check.due("the lowest", 1, sea.cell(0));
        Check.due("the second", 5, sea.cell(100));
        Check.due("the third", 7, sea.cell(200));
    }

    static void laterFeedStandsBehind() {
        HalfSea sea = new HalfSea();
        sea.feed(2, 'A' | 'B' << 8);
        sea.feed(1, 'c');
        Check.due("read", 3, sea.read());
        Check.due("the first feed's second byte", 2, sea.cell(100));
        Check.due("the second feed's", 6, sea.cell(200));
    }

    static void bytesAboveThoseAskedAreLeft() {
        HalfSea sea = new HalfSea();
        Check.due("feed(2) of three", 2, sea.feed(2, 'A' | 'b' << 8 | 'r' << 16));
        Check.due("feed(1) of many", 3, sea.feed(1, 0x7272727272727200L | '.'));
        Check.due("read", 3, sea.read());
        Check.due("the third is the next feed's", 0, sea.cell(200));
    }

    /** A byte is 0 .. 255: the sign of the long, and of a byte, must not come through. */
    static void highBytesAreTaken() {
        HalfSea sea = new HalfSea();
        Check.due("feed(8) of -1", 8, sea.feed(8, -1L));
        Check.due("read", -20, sea.read());
        Check.due("feed(8) of the least long", 8, sea.feed(8, Long.MIN_VALUE | 0x002E2E2E2E2E2E2EL));
        Check.due("read of 128 at the end", -27, sea.read());
    }

    static void tapeHas129AtMostByOnes() {
        HalfSea sea = fedTo(128);
        Check.due("up to 129", 129, sea.feed(1, '.'));
        Check.due("bytes on the tape", 129, sea.count(4));
    }

    static void tapeHas129AtMostByEights() {
        HalfSea sea = fedTo(121);
        Check.due("up to 129", 129, sea.feed(8, 0x2E2E2E2E2E2E2E2EL));
    }

    static void oneAbove129IsRefusedWhole() {
        Refusal.dueOn(() -> fedTo(128), "feed(2) at 128", -6, sea -> sea.feed(2, 0x2E2E));
        Refusal.dueOn(() -> fedTo(122), "feed(8) at 122", -6, sea -> sea.feed(8, 0x2E2E2E2E2E2E2E2EL));
        HalfSea sea = fedTo(128);
        sea.feed(2, 0x2E2E);
        Check.due("what fits is taken after it", 129, sea.feed(1, '.'));
    }

    static void fullTapeTakesNoByte() {
        Refusal.dueOn(Refusal::withFullTape, "feed(1) when full", -6, sea -> sea.feed(1, '.'));
        Refusal.dueOn(Refusal::withFullTape, "feed(8) when full", -6, sea -> sea.feed(8, -1L));
    }

    static void belowGoesAheadOfFull() {
        Refusal.dueOn(Refusal::withFullTape, "feed(0) when full", -4, sea -> sea.feed(0, '.'));
    }

    static void tooManyInAFullTapeIsOneRefusal() {
        Refusal.dueOn(Refusal::withFullTape, "feed(9) when full", -6, sea -> sea.feed(9, '.'));
        Refusal.dueOn(Refusal::withFullTape, "feed(greatest int) when full", -6,
                sea -> sea.feed(Integer.MAX_VALUE, '.'));
    }

    static void thereIsRoomAfterRead() {
        HalfSea sea = Refusal.withFullTape();
        Check.due("read", 120, sea.read());
        Check.due("feed(8)", 8, sea.feed(8, 0));
    }

    static void thereIsRoomAfterAFault() {
        HalfSea sea = fedTo(129);
        Check.due("read of a line of 129", -32, sea.read());
        Check.due("feed(8)", 8, sea.feed(8, 0));
    }

    static void changesNothingButTheTape() {
        HalfSea sea = Check.sea("A.B");
        sea.well(100, 5);
        sea.put(1);
        Check.due("feed", 3, sea.feed(3, 'r' | 'r' << 8 | 'r' << 16));
        int[] due = {3, 1, 1, 1, 3, 1};
        for (int what = 0; what < due.length; what++) {
            Check.due("count(" + what + ")", due[what], sea.count(what));
        }
        Check.due("the sea is as it was", 1, sea.cell(0));
    }
}
