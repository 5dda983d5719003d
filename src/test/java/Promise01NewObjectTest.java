/** Promise 1: A new object. */
public final class Promise01NewObjectTest {

    public static void main(String[] args) throws IllegalAccessException {
        Check.runEach(Promise01NewObjectTest.class);
    }

    static void isOneCellOfSea() {
        HalfSea sea = new HalfSea();
        Check.due("wide", 1, sea.count(0));
        Check.due("high", 1, sea.count(1));
        Check.due("cells of sea", 1, sea.count(2));
        Check.due("cell(0)", 0, sea.cell(0));
    }

    static void hasNoOtherCell() {
        HalfSea sea = new HalfSea();
        for (int xy : new int[] {1, 100, 101, -1, 99}) {
            Check.due("cell(" + xy + ")", -1, sea.cell(xy));
        }
    }

    static void hasEmptyTapeRowAndWells() {
        HalfSea sea = new HalfSea();
        Check.due("wells", 0, sea.count(3));
        Check.due("bytes on the tape", 0, sea.count(4));
        Check.due("bytes of the row", 0, sea.count(5));
    }

    static void hasRefusedNothing() {
        HalfSea sea = new HalfSea();
        for (int what = 11; what <= 16; what++) {
            Check.due("count(" + what + ")", 0, sea.count(what));
        }
    }

    static void hasTheRulesOfTheFirst() {
        HalfSea sea = new HalfSea();
        Check.due("mouth", 0, sea.rule(0, 0));
        Check.due("weight", 2, sea.rule(1, 2));
        Check.due("reach", 20, sea.rule(2, 20));
        Check.due("bend", 0, sea.rule(3, 0));
    }

    static void hasNoImage() {
        Check.due("on()", -3, new HalfSea().on());
    }

    static void isHighSea() {
        HalfSea sea = new HalfSea();
        Check.due("whose(0)", -3, sea.whose(0));
        int[] owners = {0, 1, 2, -2, -3};
        int[] due = {0, 0, 0, 0, 1};
        for (int k = 0; k < owners.length; k++) {
            Check.due("area(" + owners[k] + ")", due[k], sea.area(owners[k]));
        }
    }

    static void answersEveryQuestionWithNothing() {
        HalfSea sea = new HalfSea();
        for (int land = 0; land < 3; land++) {
            Check.due("near(0, " + land + ")", -9, sea.near(0, land));
            Check.due("from(0, " + land + ")", -9, sea.from(0, land));
            Check.due("shore(" + land + ")", 0, sea.shore(land));
            Check.due("worth(" + land + ")", 0, sea.worth(land));
            Check.due("chosen(" + land + ")", 0, sea.chosen(land));
        }
        Check.due("inner(0)", -9, sea.inner(0));
        Check.due("third()", 0, sea.third());
        Check.due("fair()", 0, sea.fair());
        Check.due("bent(0)", 0, sea.bent(0));
        Check.due("pieces()", 0, sea.pieces());
        Check.due("turnings()", 0, sea.turnings());
        Check.due("most()", -9, sea.most());
        Check.due("claims()", 0, sea.claims());
        Check.due("claimed(0)", 0, sea.claimed(0));
        Check.due("meet(0, 0)", 0, sea.meet(0, 0));
        Check.due("read()", -20, sea.read());
        Check.due("judge()", 0, sea.judge());
        Check.due("image()", 1, sea.image());
    }

    static void standsApartFromOthers() {
        HalfSea one = new HalfSea();
        HalfSea other = new HalfSea();
        one.grow(0, 1);
        one.rule(2, 3);
        one.feed(1, 'A');
        one.put(5);
        one.image();
        one.cell(-1);
        Refusal.same("calls on another object", other, new HalfSea());
    }

    /** "An object is used for at most 512 calls": the last of them is answered as the first. */
    static void answersTheLastOf512Calls() {
        HalfSea sea = new HalfSea();
        Check.due("call 1", 8, sea.feed(8, 0x422E2E2E2E2E2E41L));
        Check.due("call 2", 8, sea.read());
        for (int call = 3; call <= 510; call += 2) {
            Check.due("call " + call, 0, sea.whose(100));
            Check.due("call " + (call + 1), -1, sea.cell(800));
        }
        Check.due("call 511", 254, sea.count(11));
        Check.due("call 512", 0, sea.most());
    }
}
