/** Promises 25 to 31: put, judge, grow, drown, image, on, count. */
public final class PapersTest {

    public static void main(String[] args) {
        puts();
        judged();
        judgedLengths();
        grown();
        drowned();
        images();
        imageAlone();
        counts();
        Check.end();
    }

    private static void puts() {
        HalfSea sea = new HalfSea();
        Check.due("put(-10)", -4, sea.put(-10));
        Check.due("put(least int)", -4, sea.put(Integer.MIN_VALUE));
        Check.due("put(10)", -6, sea.put(10));
        Check.due("put(greatest int)", -6, sea.put(Integer.MAX_VALUE));
        Check.due("put(-9)", 1, sea.put(-9));
        Check.due("put(9)", 2, sea.put(9));
        for (int k = 3; k <= 120; k++) {
            Check.due("put " + k, k, sea.put(0));
        }
        Check.due("a byte more", -6, sea.put(0));
        Check.due("below in a full row", -4, sea.put(-10));
        Check.due("bytes of the row", 120, sea.count(5));
        Check.due("refusals -4", 3, sea.count(14));
        Check.due("refusals -6", 3, sea.count(16));
    }

    private static void judgedAs(HalfSea sea, int due, int... bytes) {
        Check.due("put all", bytes.length, bytes.length == 0 ? 0 : Check.putAll(sea, bytes));
        Check.due("judge of " + java.util.Arrays.toString(bytes), due, sea.judge());
        Check.due("the row is empty", 0, sea.count(5));
    }

    private static void judged() {
        HalfSea sea = Check.sea("A...B/....r");
        sea.rule(2, 2);
        judgedAs(sea, -9, 9, 0, -2, 1, 9, 0, 0, -3, 1, 9);
        judgedAs(sea, -9, -9, 0, -2, 1, 5, 0, 0, -3, 1, 1);
        judgedAs(sea, 100, 9, 1, -2, 1, 9, 0, 0, -3, 1, 9);
        judgedAs(sea, 200, 9, 0, -3, 1, 9, 0, 0, -3, 1, 9);
        judgedAs(sea, 201, 9, 0, -2, 1, 9, 0, 0, -2, 1, 9);
        judgedAs(sea, 1, 9, 0, -2, 1, 9, 1, 0, -3, 0, 9);
        judgedAs(sea, 301, 9, 0, -2, 1, 9, 0, 0, -3, -9, 9);
        sea.rule(2, 1);
        judgedAs(sea, 301, 9, 0, -3, 1, 9, 0, -3, -3, 1, 9);
        judgedAs(sea, -9, 9, 0, -3, 1, 9, 0, -3, -3, -3, 9);
        Check.due("no refusal", 0, Check.refused(sea));
    }

    private static void judgedLengths() {
        HalfSea sea = Check.sea("A./.r");
        judgedAs(sea, 0);
        judgedAs(sea, 100, 0);
        judgedAs(sea, 1, 0, 0);
        judgedAs(sea, 101, 0, 0, 0);
        judgedAs(sea, -9, 0, 0, 0, 0);
        judgedAs(sea, 9999, 0, 0, 0, 0, 0);
        judgedAs(sea, 100, 0, 1);
        // a wrong cell stands ahead of the end that is too far
        judgedAs(sea, 1, 0, 0, 1, 0, 0);
    }

    private static void grown() {
        HalfSea sea = Check.sea("A.ar/....");
        Check.due("grow(100, 2)", 1, sea.grow(100, 2));
        Check.due("coast of land 2", 3, sea.cell(100));
        Check.due("grow(1, 0)", 1, sea.grow(1, 0));
        Check.due("coast of land 0", 1, sea.cell(1));
        Check.due("grow(301, 1)", 1, sea.grow(301, 1));
        Check.due("coast of land 1", 2, sea.cell(301));
        Check.due("cells of sea", 2, sea.count(2));
        Check.due("shore of 1", 1, sea.shore(1));
        Check.due("no such cell", -1, sea.grow(400, 0));
        Check.due("no such land", -1, sea.grow(101, 3));
        Check.due("no land below", -1, sea.grow(101, -1));
        Check.due("no such land, no sea", -1, sea.grow(0, 3));
        Check.due("coast", -3, sea.grow(0, 0));
        Check.due("grown coast", -3, sea.grow(100, 2));
        Check.due("island", -3, sea.grow(200, 0));
        Check.due("rock", -3, sea.grow(300, 0));
        Check.due("refusals -1", 4, sea.count(11));
        Check.due("refusals -3", 4, sea.count(13));
        sea.well(101, 5);
        sea.well(201, 6);
        sea.well(101, 7);
        Check.due("a well is grown over", 1, sea.grow(101, 1));
        Check.due("the other stays", 1, sea.count(3));
        Check.due("drowned again", 2, sea.drown(101));
        Check.due("the well does not come back", 1, sea.count(3));
        sea.rule(1, 0);
        Check.due("the other's worth", 6, sea.worth(1));
    }

    private static void drowned() {
        HalfSea sea = Check.sea("ABCabcr.");
        for (int x = 0; x < 7; x++) {
            Check.due("drown(" + 100 * x + ")", x + 1, sea.drown(100 * x));
            Check.due("it is sea", 0, sea.cell(100 * x));
            Check.due("cells of sea", x + 2, sea.count(2));
        }
        Check.due("sea", -3, sea.drown(700));
        Check.due("drowned", -3, sea.drown(0));
        Check.due("no such cell", -1, sea.drown(800));
        Check.due("no such cell below", -1, sea.drown(1));
        Check.due("refusals -1", 2, sea.count(11));
        Check.due("refusals -3", 2, sea.count(13));
        Check.due("a well where a rock was", 1, sea.well(600, 4));
        Check.due("all is high sea", 8, sea.area(-3));
    }

    private static void images() {
        HalfSea sea = Check.sea("A..B/....");
        Check.due("none yet", -3, sea.on());
        Check.due("refusals -3", 1, sea.count(13));
        sea.rule(0, 1);
        sea.rule(1, 0);
        sea.rule(2, 5);
        sea.rule(3, -4);
        sea.well(100, 9);
        sea.well(101, 8);
        Check.due("image", 8, sea.image());
        sea.rule(0, 2);
        sea.rule(1, 1);
        sea.rule(2, 6);
        sea.rule(3, 5);
        sea.drown(0);
        sea.grow(100, 2);
        sea.well(201, 3);
        Check.due("on", 8, sea.on());
        Check.due("mouth", 1, sea.rule(0, 3));
        Check.due("weight", 0, sea.rule(1, 2));
        Check.due("reach", 5, sea.rule(2, 7));
        Check.due("bend", -4, sea.rule(3, 6));
        Check.due("coast", 1, sea.cell(0));
        Check.due("sea", 0, sea.cell(100));
        Check.due("wells", 2, sea.count(3));
        Check.due("read over it", 3, Check.readInto(sea, "C/./."));
        Check.due("on after read", 8, sea.on());
        Check.due("wide", 4, sea.count(0));
        Check.due("high", 2, sea.count(1));
        Check.due("wells after read", 2, sea.count(3));
        Check.due("bend again", -4, sea.rule(3, 0));
        Check.due("worth of them", 17, sea.worth(0));
        sea.drown(0);
        Check.due("a second image", 8, sea.image());
        Check.due("on from it", 8, sea.on());
        Check.due("is the second", 0, sea.cell(0));
        Check.due("its bend", 0, sea.rule(3, 0));
    }

    private static void imageAlone() {
        HalfSea sea = Check.sea("A..");
        sea.image();
        sea.feed(2, 0);
        sea.put(1);
        sea.put(1);
        sea.put(1);
        sea.cell(1);
        Check.due("on", 3, sea.on());
        Check.due("the tape stays", 2, sea.count(4));
        Check.due("the row stays", 3, sea.count(5));
        Check.due("refusals stay", 1, sea.count(11));
        HalfSea other = new HalfSea();
        Check.due("another object has no image", -3, other.on());
    }

    private static void counts() {
        HalfSea sea = Check.sea("A.r/.b./...");
        Check.due("wide", 3, sea.count(0));
        Check.due("high", 3, sea.count(1));
        Check.due("cells of sea", 6, sea.count(2));
        sea.well(100, 1);
        sea.feed(3, 0);
        sea.put(0);
        sea.put(0);
        Check.due("wells", 1, sea.count(3));
        Check.due("tape", 3, sea.count(4));
        Check.due("row", 2, sea.count(5));
        sea.cell(-1);
        sea.rule(9, 0);
        sea.rule(9, 0);
        sea.on();
        sea.moves(100);
        sea.moves(100);
        sea.drown(100);
        sea.feed(0, 0);
        sea.bent(-1);
        sea.rule(0, -1);
        sea.rule(0, -1);
        sea.rule(0, -1);
        sea.feed(9, 0);
        sea.put(10);
        int[] due = {3, 0, 4, 5, 0, 2};
        for (int kind = 0; kind < due.length; kind++) {
            Check.due("count(" + (11 + kind) + ")", due[kind], sea.count(11 + kind));
        }
        int[] others = {-1, 6, 7, 8, 9, 10, 17, 18, 100, Integer.MIN_VALUE, Integer.MAX_VALUE};
        for (int what : others) {
            Check.due("count(" + what + ")", -9, sea.count(what));
        }
        Check.due("another what is no refusal", 14, Check.refused(sea));
    }
}
