/** Promises 19 to 24: well, worth, chosen, claims, claimed, meet. */
public final class WellsTest {

    public static void main(String[] args) {
        wells();
        wellRefusals();
        worths();
        chosenByWorthAndArea();
        chosenByMouth();
        chosenByReach();
        chosenByAll();
        chosenRefusals();
        claimsOfBoth();
        meets();
        meetRefusals();
        Check.end();
    }

    private static void wells() {
        HalfSea sea = Check.sea("A...B");
        for (int k = 1; k <= 12; k++) {
            Check.due("well " + k, k, sea.well(100 + 100 * (k % 3), k == 1 ? 1 : 99));
        }
        Check.due("a thirteenth", -6, sea.well(100, 1));
        Check.due("wells", 12, sea.count(3));
        Check.due("refusals -6", 1, sea.count(16));
        // wells 3, 6, 9, 12 stand in the first cell of sea, 1 (worth 1), 4, 7, 10 in the even one
        Check.due("worth of four in a cell", 4 * 99, sea.worth(0));
        Check.due("worth of four in another", 4 * 99, sea.worth(1));
        Check.due("one grown over", 1, sea.grow(100, 0));
        Check.due("all its wells are none", 8, sea.count(3));
        Check.due("others stay", 4 * 99, sea.worth(1));
        Check.due("the even cell's are land 0's now", 3 * 99 + 1, sea.worth(0));
        Check.due("there is room again", 9, sea.well(300, 2));
        Check.due("worth with it", 4 * 99 + 2, sea.worth(1));
    }

    private static void wellRefusals() {
        HalfSea sea = Check.sea("A.ar");
        Check.due("no such cell", -1, sea.well(1, 1));
        Check.due("no such cell, whatever v", -1, sea.well(-1, 0));
        Check.due("coast", -3, sea.well(0, 1));
        Check.due("island, whatever v", -3, sea.well(200, 0));
        Check.due("rock, whatever v", -3, sea.well(300, 100));
        Check.due("0", -4, sea.well(100, 0));
        Check.due("least int", -4, sea.well(100, Integer.MIN_VALUE));
        Check.due("100", -6, sea.well(100, 100));
        Check.due("greatest int", -6, sea.well(100, Integer.MAX_VALUE));
        Check.due("no wells", 0, sea.count(3));
        for (int k = 1; k <= 12; k++) {
            sea.well(100, k);
        }
        Check.due("full, but no such cell", -1, sea.well(400, 1));
        Check.due("full, but no sea", -3, sea.well(0, 1));
        Check.due("full, but below", -4, sea.well(100, 0));
        Check.due("full", -6, sea.well(100, 1));
        Check.due("refusals -1", 3, sea.count(11));
        Check.due("refusals -3", 4, sea.count(13));
        Check.due("refusals -4", 3, sea.count(14));
        Check.due("refusals -6", 3, sea.count(16));
    }

    private static void worths() {
        HalfSea sea = Check.sea("A...B.C");
        sea.well(100, 7);
        sea.well(200, 11);
        sea.well(300, 13);
        sea.well(500, 17);
        Check.due("worth(0)", 7, sea.worth(0));
        Check.due("worth(1)", 13, sea.worth(1));
        Check.due("worth(2)", 0, sea.worth(2));
        sea.rule(3, -10);
        Check.due("worth(1) bent", 13 + 11 + 17, sea.worth(1));
        sea.rule(3, 10);
        Check.due("worth(0) bent", 7 + 11, sea.worth(0));
        Check.due("worth(2) bent", 17, sea.worth(2));
        for (int land : new int[] {3, -1, -2, -3}) {
            Check.due("worth(" + land + ")", -1, sea.worth(land));
        }
        Check.due("refusals -1", 4, sea.count(11));
    }

    private static void chosenByWorthAndArea() {
        // whole, the island has (4,0) for land 0; half, it is even; not counted, land 1's
        HalfSea sea = Check.sea("A..a..B");
        Check.due("most area for 0", 200, sea.chosen(0));
        Check.due("most area for 1, the least number", 0, sea.chosen(1));
        Check.due("land 2 has none anyhow", 0, sea.chosen(2));
        sea.well(500, 9);
        Check.due("equal worth is by area", 200, sea.chosen(0));
        HalfSea own = Check.sea("B...bA..");
        Check.due("an island of its own", 200, own.chosen(1));
        Check.due("rules stay", 2, own.rule(1, 0));
        Check.due("whatever weight is set", 200, own.chosen(1));
        // half reach has the cells (3,0) and (3,1) for land 1, full reach (8,0)
        HalfSea worth = Check.sea("A....Brr./A....Brrr");
        worth.rule(3, 50);
        worth.rule(2, 4);
        Check.due("more area", 1, worth.chosen(1));
        worth.well(800, 2);
        Check.due("worth goes ahead of area", 0, worth.chosen(1));
        worth.well(300, 2);
        Check.due("worth equal, more area", 1, worth.chosen(1));
        worth.well(800, 1);
        Check.due("worth again", 0, worth.chosen(1));
    }

    private static void chosenByMouth() {
        HalfSea sea = Check.sea("A...A/.BBB.");
        Check.due("no mouth", 0, sea.chosen(0));
        sea.rule(0, 3);
        Check.due("mouth as it is", 10, sea.chosen(0));
        Check.due("mouth taken as 0", 0, sea.chosen(1));
        sea.rule(0, 2);
        Check.due("a mouth too narrow", 0, sea.chosen(0));
        HalfSea bays = Check.sea("B.B/.A./A../A..");
        bays.rule(0, 1);
        Check.due("land 1 has a bay of its own", 10, bays.chosen(1));
        // the island and the bay are both worth it
        HalfSea both = Check.sea("A...A.../.BBB..a./.......B");
        both.rule(0, 3);
        Check.due("mouth as it is with the whole island", 210, both.chosen(0));
    }

    private static void chosenByReach() {
        HalfSea sea = Check.sea("A....B");
        sea.rule(3, 50);
        sea.rule(2, 4);
        Check.due("reach as it is", 0, sea.chosen(0));
        Check.due("half reach", 1, sea.chosen(1));
        sea.rule(2, 5);
        Check.due("half is cut", 1, sea.chosen(1));
        sea.well(400, 9);
        sea.well(300, 1);
        Check.due("half reach for a well", 1, sea.chosen(1));
        Check.due("reach as it is for a well", 0, sea.chosen(0));
        HalfSea lone = Check.sea("A.....");
        lone.rule(2, 3);
        lone.rule(1, 1);
        Check.due("more reach has more area", 0, lone.chosen(0));
    }

    /** With REACH 4 the three parts do not touch: each is for land 1 by another of the three rules. */
    private static void chosenByAll() {
        String rocks = "/rrrrrrrrrrrr";
        HalfSea sea = Check.sea("A....Brrrrrr" + rocks.repeat(5) + "/B.Brrrrrrbr./rArrrrrrrrrr");
        sea.rule(0, 1);
        sea.rule(2, 4);
        sea.rule(3, 50);
        Check.due("all of them for 1", 211, sea.chosen(1));
        Check.due("none of them for 0", 0, sea.chosen(0));
        Check.due("meet(0, 4)", 211, sea.meet(0, 4));
        Check.due("meet(0, 5)", -9, sea.meet(0, 5));
        Check.due("claims", 2, sea.claims());
        Check.due("claimed(106)", 3, sea.claimed(106));
        Check.due("claimed(1106)", 2, sea.claimed(1106));
    }

    private static void chosenRefusals() {
        HalfSea sea = Check.sea("A.B");
        for (int land : new int[] {3, -1, -2, Integer.MIN_VALUE, Integer.MAX_VALUE}) {
            Check.due("chosen(" + land + ")", -1, sea.chosen(land));
        }
        Check.due("refusals -1", 5, sea.count(11));
    }

    private static void claimsOfBoth() {
        HalfSea sea = Check.sea("A...A/.BBB.");
        Check.due("claims without mouth", 0, sea.claims());
        sea.rule(0, 3);
        Check.due("claims", 1, sea.claims());
        Check.due("by both", 3, sea.claimed(200));
        Check.due("by 0", 1, sea.claimed(100));
        Check.due("by none", 0, sea.claimed(1));
        Check.due("a coast", 0, sea.claimed(0));
        HalfSea reach = Check.sea("A....B");
        reach.rule(3, 50);
        reach.rule(2, 4);
        Check.due("claims by reach", 1, reach.claims());
        int[] due = {0, 1, 1, 3, 2, 0};
        for (int x = 0; x < due.length; x++) {
            Check.due("claimed(" + 100 * x + ")", due[x], reach.claimed(100 * x));
        }
        Check.due("claimed(1)", -1, reach.claimed(1));
        Check.due("claimed(600)", -1, reach.claimed(600));
        Check.due("claimed(-100)", -1, reach.claimed(-100));
        Check.due("refusals -1", 3, reach.count(11));
        Check.due("rules stay", 4, reach.rule(2, 4));
        Check.due("land 2 claims nothing", 0, Check.sea("C..").claimed(100));
        // with the island land 0's, without it land 1's
        HalfSea first = Check.sea(".a.B");
        Check.due("the first cell", 3, first.claimed(0));
        Check.due("it alone", 1, first.claims());
    }

    private static void meets() {
        HalfSea sea = Check.sea("A...A/.BBB.");
        sea.rule(0, 3);
        Check.due("meet(0, 0)", 0, sea.meet(0, 0));
        Check.due("meet(0, 1)", 0, sea.meet(0, 1));
        Check.due("meet(1, 0)", 10, sea.meet(1, 0));
        Check.due("meet(3, 0)", 10, sea.meet(3, 0));
        Check.due("meet(4, 0)", -9, sea.meet(4, 0));
        Check.due("meet(3, 1)", -9, sea.meet(3, 1));
        HalfSea reach = Check.sea("A....B");
        reach.rule(3, 50);
        reach.rule(2, 4);
        Check.due("meet by reach as it is", 0, reach.meet(3, 1));
        Check.due("meet by half", 1, reach.meet(2, 2));
        Check.due("meet by none", -9, reach.meet(3, 2));
        HalfSea island = Check.sea("A..a..B");
        Check.due("meet by the whole island", 200, island.meet(3, 1));
        Check.due("meet without the island", 0, island.meet(2, 2));
        island.rule(1, 0);
        Check.due("whatever weight is set", 200, island.meet(3, 1));
        Check.due("rules stay", 0, island.rule(1, 0));
        Check.due("meet(120, 120)", -9, island.meet(120, 120));
    }

    private static void meetRefusals() {
        HalfSea sea = Check.sea("A.B");
        Check.due("meet(-1, 0)", -4, sea.meet(-1, 0));
        Check.due("meet(0, -1)", -4, sea.meet(0, -1));
        Check.due("meet(121, -1)", -4, sea.meet(121, -1));
        Check.due("meet(-1, 121)", -4, sea.meet(-1, 121));
        Check.due("meet(121, 0)", -6, sea.meet(121, 0));
        Check.due("meet(0, 121)", -6, sea.meet(0, 121));
        Check.due("refusals -4", 4, sea.count(14));
        Check.due("refusals -6", 2, sea.count(16));
    }
}
