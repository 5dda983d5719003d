/** Promise 5: rule. */
public final class Promise05RuleTest {
    private static final int[] FIRST = {0, 2, 20, 0};
    private static final int[] LEAST = {0, 0, 0, -50};
    private static final int[] GREATEST = {9, 2, 20, 50};

    public static void main(String[] args) throws IllegalAccessException {
        Check.runEach(Promise05RuleTest.class);
    }

    private static void edges(int rule, int least, int greatest, int first) {
        HalfSea sea = new HalfSea();
        String name = "rule(" + rule + ") ";
        Check.due(name + "at first", first, sea.rule(rule, least));
        Check.due(name + "was the least", least, sea.rule(rule, greatest));
        Check.due(name + "was the greatest", greatest, sea.rule(rule, least));
        for (int v = least; v <= greatest; v++) {
            Check.due(name + "becomes " + v, Math.max(least, v - 1), sea.rule(rule, v));
        }
        Check.due("no refusal", 0, Check.refused(sea));
        Refusal.dueOfRule(name + "one below", -4, s -> s.rule(rule, least - 1));
        Refusal.dueOfRule(name + "far below", -4, s -> s.rule(rule, Integer.MIN_VALUE));
        Refusal.dueOfRule(name + "one above", -6, s -> s.rule(rule, greatest + 1));
        Refusal.dueOfRule(name + "far above", -6, s -> s.rule(rule, Integer.MAX_VALUE));
    }

    static void mouthIs0To9() {
        edges(0, 0, 9, 0);
    }

    static void weightIs0To2() {
        edges(1, 0, 2, 2);
    }

    static void reachIs0To20() {
        edges(2, 0, 20, 20);
    }

    static void bendIsMinus50To50() {
        edges(3, -50, 50, 0);
    }

    static void noSuchRule() {
        for (int rule : new int[] {-1, 4, 5, Integer.MIN_VALUE, Integer.MAX_VALUE}) {
            Refusal.dueOfRule("rule(" + rule + ", 0)", -1, sea -> sea.rule(rule, 0));
        }
    }

    static void noSuchRuleGoesAheadOfBelowAndAbove() {
        for (int v : new int[] {-51, -1, 51, Integer.MIN_VALUE, Integer.MAX_VALUE}) {
            Refusal.dueOfRule("rule(4, " + v + ")", -1, sea -> sea.rule(4, v));
            Refusal.dueOfRule("rule(-1, " + v + ")", -1, sea -> sea.rule(-1, v));
        }
    }

    static void refusalsAreFarFromWhatARuleWas() {
        HalfSea sea = new HalfSea();
        Check.due("rule(4, 0)", 1000000001, sea.rule(4, 0));
        Check.due("rule(3, -51)", 1000000004, sea.rule(3, -51));
        Check.due("rule(3, 51)", 1000000006, sea.rule(3, 51));
        for (int number : new int[] {-1, -4, -6}) {
            sea.rule(3, number);
            Check.due("what it was", number, sea.rule(3, 0));
            Check.due("count(" + (10 - number) + ")", 1, sea.count(10 - number));
        }
        Check.due("all refusals", 3, Check.refused(sea));
    }

    static void changesNoOtherRule() {
        for (int rule = 0; rule < 4; rule++) {
            HalfSea sea = new HalfSea();
            sea.rule(rule, 1);
            for (int other = 0; other < 4; other++) {
                Check.due("rule " + other + " beside " + rule, other == rule ? 1 : FIRST[other],
                        sea.rule(other, LEAST[other]));
            }
        }
    }

    static void staysAsItIsTillTheNext() {
        HalfSea sea = new HalfSea();
        for (int rule = 0; rule < 4; rule++) {
            sea.rule(rule, GREATEST[rule]);
            Check.due("the same again", GREATEST[rule], sea.rule(rule, GREATEST[rule]));
        }
        sea.bent(0);
        sea.chosen(0);
        sea.claims();
        sea.meet(1, 1);
        sea.most();
        for (int rule = 0; rule < 4; rule++) {
            Check.due("after questions", GREATEST[rule], sea.rule(rule, 0));
        }
    }
}
