import java.util.ArrayList;
import java.util.List;
import java.util.function.Supplier;
import java.util.function.ToIntFunction;

/**
 * A refused call changes nothing but how many refusals there were. Two objects are made alike and one
 * of them is refused; then both are asked for everything that can be seen, what can be seen only by
 * using it up (the tape, the row, the image) at the last.
 */
final class Refusal {
    private static final int RULE_REFUSED = 1000000000;

    private Refusal() {
    }

    /** Refused by an object that has something in all it can have. */
    static void due(String call, int number, ToIntFunction<HalfSea> refused) {
        dueIn("a sea", Refusal::busySea, call, number, number, refused);
    }

    static void dueInNew(String call, int number, ToIntFunction<HalfSea> refused) {
        dueIn("a new object", HalfSea::new, call, number, number, refused);
    }

    static void dueOn(Supplier<HalfSea> made, String call, int number, ToIntFunction<HalfSea> refused) {
        dueIn("a sea made so", made, call, number, number, refused);
    }

    static void dueOfRule(String call, int number, ToIntFunction<HalfSea> refused) {
        dueIn("a sea", Refusal::busySea, call, number, RULE_REFUSED - number, refused);
    }

    private static void dueIn(String where, Supplier<HalfSea> made, String call, int number, int answer,
            ToIntFunction<HalfSea> refused) {
        HalfSea one = made.get();
        HalfSea twin = made.get();
        Check.due(call + " in " + where, answer, refused.applyAsInt(one));
        for (int kind = 1; kind <= 6; kind++) {
            Check.due("refusals -" + kind + " after " + call + " in " + where,
                    twin.count(10 + kind) + (kind == -number ? 1 : 0), one.count(10 + kind));
        }
        same(call + " in " + where, one, twin);
    }

    /** Everything that can be seen of the two but for the counts of refusals. */
    static void same(String after, HalfSea one, HalfSea twin) {
        List<String> seen = everythingOf(one);
        List<String> due = everythingOf(twin);
        Check.due("how much is seen after " + after, due.size(), seen.size());
        for (int k = 0; k < due.size() && k < seen.size(); k++) {
            Check.holds("after " + after + " it is " + due.get(k) + ", not " + seen.get(k),
                    due.get(k).equals(seen.get(k)));
        }
    }

    /** Twelve cells with all kinds, rules that are none of the first ones, wells, tape, row, an image. */
    static HalfSea busySea() {
        HalfSea sea = Check.sea("B.a/..C", 1, 1, 3, -7);
        sea.well(1, 40);
        sea.well(101, 2);
        sea.image();
        Check.readInto(sea, "A..b/A.r./C.aB");
        Check.setRules(sea, 3, 2, 9, 5);
        sea.well(100, 3);
        sea.well(301, 50);
        sea.well(100, 7);
        // as many bytes as the first line has, and right ones: judge() then tells where the row ends
        Check.putAll(sea, 9, sea.whose(100), sea.whose(200), 9);
        Check.feed(sea, "C.b/r..");
        return sea;
    }

    static HalfSea withFullTape() {
        HalfSea sea = busySea();
        // a fault empties the tape and leaves all else
        Check.readInto(sea, "x");
        Check.due("a full tape", 129, Check.feed(sea, Check.greatest('A', '.')));
        return sea;
    }

    /** The row is right and too long, so that a byte of it that changed would be told by judge(). */
    static HalfSea withFullRow() {
        HalfSea sea = busySea();
        sea.judge();
        for (int k = 0; k < 12; k++) {
            sea.put(sea.whose(100 * (k % 4) + k / 4));
        }
        for (int k = 13; k <= 120; k++) {
            sea.put(0);
        }
        Check.due("a full row", 120, sea.count(5));
        return sea;
    }

    static HalfSea withFullWells() {
        HalfSea sea = busySea();
        for (int k = 4; k <= 12; k++) {
            Check.due("well " + k, k, sea.well(k % 2 == 0 ? 100 : 301, k));
        }
        return sea;
    }

    private static List<String> everythingOf(HalfSea sea) {
        List<String> seen = new ArrayList<>();
        lookAround(sea, seen);
        lookAtShares(sea, seen);
        seen.add("judge " + sea.judge());
        for (int rule = 0; rule <= 3; rule++) {
            seen.add("rule " + rule + " " + sea.rule(rule, 0));
        }
        seen.add("read " + sea.read());
        lookAround(sea, seen);
        seen.add("on " + sea.on());
        lookAtShares(sea, seen);
        for (int rule = 0; rule <= 3; rule++) {
            seen.add("rule " + rule + " of the image " + sea.rule(rule, 0));
        }
        return seen;
    }

    private static void lookAround(HalfSea sea, List<String> seen) {
        for (int what = 0; what <= 5; what++) {
            seen.add("count " + what + " " + sea.count(what));
        }
        for (int y = 0; y < Math.min(4, sea.count(1)); y++) {
            for (int x = 0; x < Math.min(5, sea.count(0)); x++) {
                int xy = 100 * x + y;
                seen.add("cell " + xy + " " + sea.cell(xy));
            }
        }
    }

    private static void lookAtShares(HalfSea sea, List<String> seen) {
        for (int y = 0; y < Math.min(4, sea.count(1)); y++) {
            for (int x = 0; x < Math.min(5, sea.count(0)); x++) {
                int xy = 100 * x + y;
                seen.add("whose " + xy + " " + sea.whose(xy) + " inner " + sea.inner(xy));
                seen.add("near " + xy + " " + sea.near(xy, 0) + " claimed " + sea.claimed(xy));
            }
        }
        for (int land = 0; land <= 2; land++) {
            seen.add("area " + land + " " + sea.area(land) + " shore " + sea.shore(land));
            seen.add("worth " + land + " " + sea.worth(land) + " chosen " + sea.chosen(land));
        }
        seen.add("even " + sea.area(-2) + " high " + sea.area(-3) + " third " + sea.third());
        seen.add("fair " + sea.fair() + " bent " + sea.bent(3) + " pieces " + sea.pieces());
        seen.add("turnings " + sea.turnings() + " most " + sea.most() + " wells " + sea.count(3));
    }
}
