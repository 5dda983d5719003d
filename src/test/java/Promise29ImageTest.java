/** Promise 29: image. */
public final class Promise29ImageTest {

    public static void main(String[] args) throws IllegalAccessException {
        Check.runEach(Promise29ImageTest.class);
    }

    static void tellsHowManyCells() {
        Check.due("the least sea", 1, new HalfSea().image());
        Check.due("the greatest sea", 120, Check.sea(Check.greatest('A', '.')).image());
        Check.due("whatever cells", 8, Check.sea("ABrc/abCr").image());
    }

    static void changesNothingElse() {
        HalfSea sea = Refusal.busySea();
        HalfSea twin = Refusal.busySea();
        sea.on();
        twin.on();
        sea.image();
        Check.due("no refusal", 0, Check.refused(sea));
        Refusal.same("image()", sea, twin);
    }

    static void laterTakesThePlaceOfTheEarlier() {
        HalfSea sea = Check.sea("A..");
        sea.image();
        sea.drown(0);
        Check.due("a second", 3, sea.image());
        sea.grow(0, 2);
        Check.due("on", 3, sea.on());
        Check.due("from the second", 0, sea.cell(0));
    }

    /** What is done after it is taken must not come into it. */
    static void laterChangesDoNotReachIt() {
        HalfSea sea = Check.sea("A..b", 1, 1, 5, -4);
        sea.well(100, 9);
        sea.image();
        sea.grow(100, 2);
        sea.drown(300);
        sea.well(200, 3);
        Check.setRules(sea, 0, 0, 0, 0);
        sea.on();
        Check.due("the cell of sea", 0, sea.cell(100));
        Check.due("the island", 5, sea.cell(300));
        Check.due("wells", 1, sea.count(3));
        Check.due("worth(0)", 9, sea.worth(0));
        Check.due("mouth", 1, sea.rule(0, 0));
        Check.due("weight", 1, sea.rule(1, 0));
        Check.due("reach", 5, sea.rule(2, 0));
        Check.due("bend", -4, sea.rule(3, 0));
    }

    static void isTakenOfFullWells() {
        HalfSea sea = Refusal.withFullWells();
        int worth = sea.worth(0) + sea.worth(1) + sea.worth(2);
        sea.image();
        sea.read();
        Check.due("wells after read", 0, sea.count(3));
        Check.due("on", 12, sea.on());
        Check.due("wells", 12, sea.count(3));
        Check.due("worth of all", worth, sea.worth(0) + sea.worth(1) + sea.worth(2));
        Check.due("no room for one more", -6, sea.well(100, 1));
    }
}
