/** Promise 30: on. */
public final class Promise30OnTest {

    public static void main(String[] args) throws IllegalAccessException {
        Check.runEach(Promise30OnTest.class);
    }

    private static HalfSea withoutImage() {
        HalfSea sea = Check.sea("A..b/A.r./C.aB", 3, 2, 9, 5);
        sea.well(100, 3);
        Check.putAll(sea, 9, sea.whose(100));
        Check.feed(sea, "C.b/r..");
        return sea;
    }

    static void noneIsNotAsItMustBe() {
        Refusal.dueInNew("on()", -3, HalfSea::on);
        Refusal.dueOn(Promise30OnTest::withoutImage, "on()", -3, HalfSea::on);
    }

    static void noneByAnotherObject() {
        new HalfSea().image();
        Check.due("on()", -3, new HalfSea().on());
    }

    static void tellsHowManyCells() {
        HalfSea sea = new HalfSea();
        sea.image();
        Check.due("the least sea", 1, sea.on());
        Check.readInto(sea, Check.greatest('A', '.'));
        Check.due("from a greater sea to the least", 1, sea.on());
        Check.due("the cells of the greater are none", -1, sea.cell(100));
        Check.readInto(sea, Check.greatest('A', '.'));
        sea.image();
        Check.readInto(sea, "..");
        Check.due("from a smaller sea to the greatest", 120, sea.on());
        Check.due("its last cell", 0, sea.cell(1109));
        Check.due("wide", 12, sea.count(0));
        Check.due("high", 10, sea.count(1));
    }

    static void theSeaIsAsThen() {
        HalfSea sea = Check.sea("A..B/....");
        sea.image();
        sea.drown(0);
        sea.grow(100, 2);
        Check.due("on", 8, sea.on());
        Check.due("the coast", 1, sea.cell(0));
        Check.due("the sea", 0, sea.cell(100));
        Check.due("read over it", 3, Check.readInto(sea, "C/./."));
        Check.due("on after read", 8, sea.on());
        Check.due("wide", 4, sea.count(0));
        Check.due("high", 2, sea.count(1));
        Check.due("cells of sea", 6, sea.count(2));
    }

    static void theRulesAreAsThen() {
        HalfSea sea = Check.sea("A..", 1, 0, 5, -4);
        sea.image();
        Check.setRules(sea, 2, 1, 6, 5);
        sea.on();
        int[] due = {1, 0, 5, -4};
        for (int rule = 0; rule < due.length; rule++) {
            Check.due("rule " + rule, due[rule], sea.rule(rule, 1));
        }
    }

    static void theWellsAreAsThen() {
        HalfSea sea = Check.sea("A..B");
        sea.well(100, 9);
        sea.well(200, 8);
        sea.image();
        sea.grow(100, 2);
        sea.well(200, 3);
        sea.well(200, 3);
        sea.on();
        Check.due("wells", 2, sea.count(3));
        Check.due("worth(0)", 9, sea.worth(0));
        Check.due("worth(1)", 8, sea.worth(1));
        Check.readInto(sea, "A..B");
        Check.due("none after read", 0, sea.count(3));
        sea.on();
        Check.due("wells after read", 2, sea.count(3));
    }

    static void allTwelveWellsAreAsThen() {
        HalfSea sea = Check.sea("A..B");
        for (int k = 1; k <= 12; k++) {
            sea.well(k % 2 == 0 ? 100 : 200, k);
        }
        sea.image();
        Check.readInto(sea, "A..B");
        for (int k = 1; k <= 12; k++) {
            sea.well(200, 90);
        }
        sea.on();
        Check.due("wells", 12, sea.count(3));
        Check.due("worth(0)", 42, sea.worth(0));
        Check.due("worth(1)", 36, sea.worth(1));
    }

    static void wellsOfLaterAreNone() {
        HalfSea sea = Check.sea("A..");
        sea.image();
        sea.well(100, 9);
        sea.on();
        Check.due("wells", 0, sea.count(3));
        Check.due("worth(0)", 0, sea.worth(0));
    }

    static void tapeRowAndRefusalsStay() {
        HalfSea sea = Check.sea("A..");
        sea.image();
        sea.feed(2, 'A' | '.' << 8);
        Check.putAll(sea, 1, 0, 1);
        sea.cell(-1);
        sea.feed(0, 0);
        Check.due("on", 3, sea.on());
        Check.due("bytes on the tape", 2, sea.count(4));
        Check.due("bytes of the row", 3, sea.count(5));
        Check.due("refusals -1", 1, sea.count(11));
        Check.due("refusals -4", 1, sea.count(14));
        Check.due("judge of the row", 200, sea.judge());
        Check.due("read of the tape", 2, sea.read());
    }

    static void itCanBeGoneOnFromAgain() {
        HalfSea sea = Check.sea("A..");
        sea.image();
        for (int k = 0; k < 3; k++) {
            sea.drown(0);
            sea.grow(200, 1);
            Check.due("on", 3, sea.on());
            Check.due("the coast", 1, sea.cell(0));
            Check.due("the sea", 0, sea.cell(200));
        }
    }
}
