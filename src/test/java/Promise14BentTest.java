/**
 * Promise 14: bent. A greater BEND never takes a cell from land 0 or gives one to land 1, so what is fair
 * by a bend and by its opposite is fair by 0, too: "of two the greater" never has a case.
 */
public final class Promise14BentTest {

    public static void main(String[] args) throws IllegalAccessException {
        Check.runEach(Promise14BentTest.class);
    }

    static void noughtIfItIsFair() {
        Check.due("bent(0)", 0, Check.sea("A.B").bent(0));
        Check.due("of a new object", 0, new HalfSea().bent(0));
    }

    static void exactlyAsToldIsTaken() {
        HalfSea sea = Check.sea("Arrrr../.rr.rrB");
        Check.due("fair()", -2, sea.fair());
        Check.due("bent(2)", 0, sea.bent(2));
        Check.due("bent(1)", 6, sea.bent(1));
        HalfSea other = Check.sea("Brrrr../.rr.rrA");
        Check.due("fair() of the other", 2, other.fair());
        Check.due("bent(2) of the other", 0, other.bent(2));
        Check.due("bent(1) of the other", -6, other.bent(1));
    }

    /** The cell (3,1) has 10 and 9: 10 (100 - b) is below 9 (100 + b) from b = 6 on. */
    static void nearestToNought() {
        Check.due("to 6", 6, Check.sea("Arrrr../.rr.rrB").bent(0));
        Check.due("to -6", -6, Check.sea("Brrrr../.rr.rrA").bent(0));
    }

    /** The cell (7,1) has 50 and 17: 50 (100 - b) is below 17 (100 + b) for b = 50 alone. */
    static void greatestAndLeastBend() {
        Check.due("to 50", 50, Check.sea("ArrrrrrrrrrB/.rrrrrr.rr..").bent(0));
        Check.due("to -50", -50, Check.sea("BrrrrrrrrrrA/.rrrrrr.rr..").bent(0));
    }

    /** The cell (6,2) has 40 and 13: 40 (100 - b) is below 13 (100 + b) from b = 51 on. */
    static void oneBeyondTheGreatestIsNotLookedAt() {
        HalfSea sea = Check.sea("ArrrrrrrrB./.rrrrrrrr.r/rrrrrr.rrrr");
        Check.due("fair()", -2, sea.fair());
        Check.due("bent(0)", -100, sea.bent(0));
        Check.due("bent(1)", -100, sea.bent(1));
        Check.due("bent(2)", 0, sea.bent(2));
        HalfSea other = Check.sea("BrrrrrrrrA./.rrrrrrrr.r/rrrrrr.rrrr");
        Check.due("bent(0) of the other", -100, other.bent(0));
    }

    static void noneIsMinus100() {
        HalfSea sea = Check.sea("A..B.");
        Check.due("bent(0)", -100, sea.bent(0));
        Check.due("none is no refusal", 0, Check.refused(sea));
    }

    static void leastTold() {
        Refusal.due("bent(-1)", -4, sea -> sea.bent(-1));
        Refusal.due("bent(least int)", -4, sea -> sea.bent(Integer.MIN_VALUE));
        Refusal.dueInNew("bent(-1)", -4, sea -> sea.bent(-1));
    }

    static void greatestTold() {
        Check.due("bent(999999)", 0, Check.sea("A..B.").bent(999999));
        Refusal.due("bent(1000000)", -6, sea -> sea.bent(1000000));
        Refusal.due("bent(greatest int)", -6, sea -> sea.bent(Integer.MAX_VALUE));
        Refusal.dueInNew("bent(1000000)", -6, sea -> sea.bent(1000000));
    }

    static void isToldFromNoughtAndChangesNoRule() {
        HalfSea sea = Check.sea("A....B");
        sea.rule(3, 50);
        Check.due("bent(0)", 0, sea.bent(0));
        Check.due("the rule", 50, sea.rule(3, 0));
    }

    static void isByTheRulesAsTheyAre() {
        // the cell (3,0) has 9 and 4: 9 (100 - b) is below 4 (100 + b) from b = 39 on, if 9 is in reach
        HalfSea sea = Check.sea("A....B..");
        Check.due("by reach 20", 39, sea.bent(0));
        sea.rule(2, 3);
        Check.due("by reach 3", 39, sea.bent(0));
        sea.rule(2, 2);
        Check.due("by reach 2", -100, sea.bent(0));
    }

    static void matchesASearchByRuleAndFair() {
        String[] texts = {"A....../......./..b..../......B", "B....../......./..a..../......A",
            "A.C.B../......./..a.b../A.....B"};
        for (String text : texts) {
            HalfSea sea = Check.sea(text);
            HalfSea other = Check.sea(text);
            int[] fairs = new int[101];
            for (int bend = -50; bend <= 50; bend++) {
                other.rule(3, bend);
                fairs[bend + 50] = Math.abs(other.fair());
            }
            for (int v = 0; v < 40; v++) {
                Check.due("bent(" + v + ") of " + text, search(fairs, v), sea.bent(v));
            }
        }
    }

    private static int search(int[] fairs, int v) {
        int best = -100;
        for (int bend = -50; bend <= 50; bend++) {
            if (fairs[bend + 50] <= v && (best == -100 || Math.abs(bend) <= Math.abs(best))) {
                best = bend;
            }
        }
        return best;
    }
}
