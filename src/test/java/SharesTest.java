/** Promises 11 to 18: area, shore, fair, bent, pieces, turnings, moves, most. */
public final class SharesTest {

    public static void main(String[] args) {
        areas();
        areaNobody();
        shores();
        fairs();
        bents();
        bentRefusals();
        pieces();
        turnings();
        moved();
        movedRefusals();
        mostMoved();
        greatest();
        Check.end();
    }

    private static void areas() {
        HalfSea sea = Check.sea("A...BrC....");
        int[] owners = {0, 1, 2, -2, -3};
        int[] due = {1, 1, 4, 1, 0};
        int[] near = {1, 1, 1, 0, 4};
        for (int k = 0; k < owners.length; k++) {
            Check.due("area(" + owners[k] + ")", due[k], sea.area(owners[k]));
        }
        sea.rule(2, 1);
        for (int k = 0; k < owners.length; k++) {
            Check.due("area(" + owners[k] + ") with reach 1", near[k], sea.area(owners[k]));
        }
        HalfSea bay = Check.sea("A.A.");
        bay.rule(2, 0);
        Check.due("high sea without reach", 2, bay.area(-3));
        bay.rule(0, 1);
        Check.due("inner waters are its own", 1, bay.area(0));
        Check.due("high sea beside a bay", 1, bay.area(-3));
    }

    private static void areaNobody() {
        HalfSea sea = Check.sea("A.r");
        int[] none = {3, -1, -4, -9, 4, Integer.MIN_VALUE, Integer.MAX_VALUE};
        for (int k = 0; k < none.length; k++) {
            Check.due("area(" + none[k] + ")", -1, sea.area(none[k]));
            Check.due("refusals -1", k + 1, sea.count(11));
        }
    }

    private static void shores() {
        String[] texts = {"A", "AA.", ".A.", "A.", ".A", "A/.", "./A", "Ar/r.", "a.", "A.A", "AB", "BA.",
            "AAA/A.A/AAA"};
        int[] due = {0, 1, 1, 1, 1, 1, 1, 0, 0, 2, 0, 1, 4};
        for (int k = 0; k < texts.length; k++) {
            Check.due("shore(0) of " + texts[k], due[k], Check.sea(texts[k]).shore(0));
        }
        HalfSea lines = Check.sea("rrrrrrrrrrrA/.rrrrrrrrrrr");
        Check.due("the end of a line is not beside the next one's start", 0, lines.shore(0));
        HalfSea lands = Check.sea("B.C.C.C");
        Check.due("shore(1)", 1, lands.shore(1));
        Check.due("shore(2)", 3, lands.shore(2));
        int[] none = {3, -1, -2, -3};
        for (int land : none) {
            Check.due("shore(" + land + ")", -1, lands.shore(land));
        }
        Check.due("refusals -1", 4, lands.count(11));
        lands.rule(0, 1);
        Check.due("inner waters are sea beside a shore", 3, lands.shore(2));
    }

    private static void fairs() {
        Check.due("fair of .A..B", 1, Check.sea(".A..B").fair());
        // areas 2 and 2, shores 2 and 1
        Check.due("fair of two shores", -2, Check.sea("A..B/A..r").fair());
        Check.due("fair the other way", 2, Check.sea("B..A/B..r").fair());
        Check.due("fair of one land", 0, Check.sea("A...").fair());
        // areas 2 and 1, shores 1 and 0
        Check.due("fair of a land without shore", -1, Check.sea("A...rB").fair());
        Check.due("fair of no land", 0, new HalfSea().fair());
        HalfSea sea = Check.sea("A....B");
        Check.due("fair straight", 0, sea.fair());
        sea.rule(3, 50);
        Check.due("fair bent", 2, sea.fair());
        sea.rule(3, -50);
        Check.due("fair bent back", -2, sea.fair());
    }

    private static void bents() {
        Check.due("even", 0, Check.sea("A.B").bent(0));
        HalfSea stiff = Check.sea("A..B.");
        Check.due("no bend is enough", -100, stiff.bent(0));
        Check.due("unfair by one", 0, stiff.bent(1));
        Check.due("unfair by more", 0, stiff.bent(999999));
        // the cell (3,1) has 10 and 9: 10 (100 - b) is below 9 (100 + b) from b = 6 on
        HalfSea right = Check.sea("Arrrr../.rr.rrB");
        Check.due("fair of it", -2, right.fair());
        Check.due("bent to 6", 6, right.bent(0));
        Check.due("bent to 6, all the same", 6, right.bent(1));
        Check.due("bent to 0", 0, right.bent(2));
        HalfSea left = Check.sea("Brrrr../.rr.rrA");
        Check.due("bent to -6", -6, left.bent(0));
        Check.due("not bent", 0, left.bent(2));
        // the cell (7,1) has 50 and 17: 50 (100 - b) is below 17 (100 + b) for b = 50 alone
        Check.due("bent to 50", 50, Check.sea("ArrrrrrrrrrB/.rrrrrr.rr..").bent(0));
        Check.due("bent to -50", -50, Check.sea("BrrrrrrrrrrA/.rrrrrr.rr..").bent(0));
        HalfSea set = Check.sea("A....B");
        set.rule(3, 50);
        Check.due("bend is told from 0, not from what is set", 0, set.bent(0));
        Check.due("the rule stays", 50, set.rule(3, 0));
        bentMatchesFair("A....../......./..b..../......B");
        bentMatchesFair("B....../......./..a..../......A");
        bentMatchesFair("A.C.B../......./..a.b../A.....B");
    }

    private static void bentMatchesFair(String text) {
        HalfSea sea = Check.sea(text);
        for (int v = 0; v < 40; v += 3) {
            Check.due("bent(" + v + ") of " + text, bentBySearch(Check.sea(text), v), sea.bent(v));
        }
    }

    /** By its definition, through rule() and fair() alone. */
    private static int bentBySearch(HalfSea sea, int v) {
        int best = -100;
        for (int bend = -50; bend <= 50; bend++) {
            sea.rule(3, bend);
            boolean nearer = best == -100 || Math.abs(bend) <= Math.abs(best);
            if (Math.abs(sea.fair()) <= v && nearer) {
                best = bend;
            }
        }
        sea.rule(3, 0);
        return best;
    }

    private static void bentRefusals() {
        HalfSea sea = Check.sea("A.B");
        Check.due("bent(-1)", -4, sea.bent(-1));
        Check.due("bent(least int)", -4, sea.bent(Integer.MIN_VALUE));
        Check.due("bent(1000000)", -6, sea.bent(1000000));
        Check.due("bent(999999)", 0, sea.bent(999999));
        Check.due("refusals -4", 2, sea.count(14));
        Check.due("refusals -6", 1, sea.count(16));
    }

    private static void pieces() {
        Check.due("no even cell", 0, Check.sea("A..B").pieces());
        Check.due("one", 1, Check.sea("A.B").pieces());
        Check.due("two", 2, Check.sea("A.BrA.B").pieces());
        Check.due("by sides", 1, Check.sea("A.B/.../A.B").pieces());
        Check.due("by corners down", 1, Check.sea("...A/..../..../B...").pieces());
        Check.due("by corners up", 1, Check.sea("A.../..../..../...B").pieces());
        HalfSea lines = Check.sea("rrrrrrrrrrrA/Arrrrrrrrrr./.rrrrrrrrrrB/Brrrrrrrrrrr");
        Check.due("even cells at the two ends of lines", 2, lines.area(-2));
        Check.due("do not hang together", 2, lines.pieces());
        Check.due("the first cell alone", 1, Check.sea(".A/Br").pieces());
        HalfSea again = Check.sea("A.BrA.B");
        Check.due("once", 2, again.pieces());
        Check.due("and again", 2, again.pieces());
    }

    private static void turnings() {
        Check.due("a straight line", 0, Check.sea("A.B/.../A.B").turnings());
        Check.due("a line over", 0, Check.sea("A.A/.../B.B").turnings());
        Check.due("corners", 0, Check.sea("A.../..../..../...B").turnings());
        HalfSea fork = Check.sea("A.B/.../C.C");
        Check.due("even cells of a fork", 4, fork.area(-2));
        Check.due("a fork", 1, fork.turnings());
        Check.due("its piece", 1, fork.pieces());
        Check.due("left and above", 1, Check.sea("A.B/..r/C.C").turnings());
        Check.due("right and above", 1, Check.sea("A.B/r../C.C").turnings());
        Check.due("left and below", 1, Check.sea("C.C/..r/A.B").turnings());
        Check.due("right and below", 1, Check.sea("C.C/r../A.B").turnings());
        Check.due("above alone", 0, Check.sea("A.B/r.r/C.C").turnings());
        HalfSea lines = Check.sea("rrrrrrrrrrrA/Arrrrrrrrrr./.rrrrrrrrrrB/Brrrrrrrrrrr");
        Check.due("the end of a line is not beside the next", 0, lines.turnings());
    }

    private static void moved() {
        HalfSea sea = Check.sea("A..B");
        Check.due("without A", 1, sea.moves(0));
        Check.due("without B", 1, sea.moves(300));
        Check.due("the coast still stands", 1, sea.cell(0));
        Check.due("whose is as it was", 0, sea.whose(100));
        Check.due("all sea becomes high", 3, Check.sea("...A").moves(300));
        Check.due("one of two coasts", 0, Check.sea("AA..").moves(0));
        HalfSea island = Check.sea("A..a..B");
        Check.due("island whole", 1, island.moves(300));
        island.rule(1, 1);
        Check.due("island half", 1, island.moves(300));
        island.rule(1, 0);
        Check.due("island none", 0, island.moves(300));
        HalfSea bay = Check.sea("A.A.");
        bay.rule(2, 0);
        bay.rule(0, 1);
        Check.due("a bay is opened", 1, bay.moves(0));
        HalfSea wider = Check.sea("A.A.A");
        wider.rule(2, 0);
        wider.rule(0, 3);
        Check.due("a wider bay is as closed", 0, wider.moves(200));
        wider.rule(0, 2);
        Check.due("a wider bay is open", 2, wider.moves(200));
    }

    private static void movedRefusals() {
        HalfSea sea = Check.sea("A.r");
        Check.due("moves(1)", -1, sea.moves(1));
        Check.due("moves(-1)", -1, sea.moves(-1));
        Check.due("moves(300)", -1, sea.moves(300));
        Check.due("moves of sea", -3, sea.moves(100));
        Check.due("moves of a rock", -3, sea.moves(200));
        Check.due("refusals -1", 3, sea.count(11));
        Check.due("refusals -3", 2, sea.count(13));
    }

    /** All the edges of 12 by 10: nothing goes round a side into the next line, or out. */
    private static void greatest() {
        StringBuilder text = new StringBuilder("A..........A");
        for (int y = 1; y < 9; y++) {
            text.append("/............");
        }
        HalfSea sea = Check.sea(text.append("/C..........B").toString());
        Check.due("shore(0)", 2, sea.shore(0));
        Check.due("shore(1)", 1, sea.shore(1));
        Check.due("shore(2)", 1, sea.shore(2));
        Check.due("area(0)", 58, sea.area(0));
        Check.due("area(1)", 29, sea.area(1));
        Check.due("area(2)", 29, sea.area(2));
        Check.due("fair", 58 - 2 * 29, sea.fair());
        Check.due("pieces", 0, sea.pieces());
        Check.due("without B", 29, sea.moves(1109));
        Check.due("most", 8, Check.sea("A/./././././././C/.").most());
        sea.rule(0, 9);
        Check.due("ten cells are no bay of nine", -9, sea.inner(100));
        sea.grow(1108, 2);
        sea.grow(8, 2);
        Check.due("ten cells of the line ahead of the last", -9, sea.inner(108));
        sea.grow(208, 2);
        Check.due("a bay at the last lines", 2, sea.inner(108));
    }

    private static void mostMoved() {
        Check.due("none", -9, Check.sea("r..").most());
        Check.due("of one", 100, Check.sea(".A").most());
        Check.due("the first of two", 0, Check.sea("A..B").most());
        Check.due("an island", 400, Check.sea("A...b..").most());
        Check.due("that moves nothing", 0, Check.sea("AB").most());
        Check.due("by y ahead of x", 200, Check.sea("..A/A..").most());
        HalfSea sea = Check.sea("AA..B/.....");
        int best = -9;
        int moved = -1;
        for (int xy : new int[] {0, 100, 400}) {
            if (sea.moves(xy) > moved) {
                moved = sea.moves(xy);
                best = xy;
            }
        }
        Check.due("the one that moves most", best, sea.most());
        Check.due("the sea is as it was", 7, sea.count(2));
        Check.due("no refusal", 0, Check.refused(sea));
    }
}
