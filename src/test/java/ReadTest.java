/** Promises 1 to 4: a new object, feed, read, cell. */
public final class ReadTest {

    public static void main(String[] args) {
        newObject();
        feedEdges();
        feedOrder();
        readSizes();
        readFaults();
        readKeepsAndDrops();
        cellKinds();
        cellNobody();
        Check.end();
    }

    private static void newObject() {
        HalfSea sea = new HalfSea();
        Check.due("cell(0) of a new one", 0, sea.cell(0));
        Check.due("wide", 1, sea.count(0));
        Check.due("high", 1, sea.count(1));
        Check.due("cells of sea", 1, sea.count(2));
        for (int what = 3; what <= 5; what++) {
            Check.due("count(" + what + ") of a new one", 0, sea.count(what));
        }
        Check.due("refusals of a new one", 0, Check.refused(sea));
        Check.due("mouth at first", 0, sea.rule(0, 0));
        Check.due("weight at first", 2, sea.rule(1, 2));
        Check.due("reach at first", 20, sea.rule(2, 20));
        Check.due("bend at first", 0, sea.rule(3, 0));
        Check.due("no image at first", -3, sea.on());
    }

    private static void feedEdges() {
        HalfSea sea = new HalfSea();
        Check.due("feed(0)", -4, sea.feed(0, 46));
        Check.due("feed(-1)", -4, sea.feed(-1, 46));
        Check.due("feed(least int)", -4, sea.feed(Integer.MIN_VALUE, 46));
        Check.due("feed(9)", -6, sea.feed(9, 46));
        Check.due("feed(greatest int)", -6, sea.feed(Integer.MAX_VALUE, 46));
        for (int k = 1; k <= 16; k++) {
            Check.due("feed 8, " + k + " times", 8 * k, sea.feed(8, -1L));
        }
        Check.due("feed above 129", -6, sea.feed(2, 46));
        Check.due("feed up to 129", 129, sea.feed(1, 46));
        Check.due("feed full", -6, sea.feed(1, 46));
        Check.due("feed full and below", -4, sea.feed(0, 46));
        Check.due("bytes on the tape", 129, sea.count(4));
        Check.due("refusals -4", 4, sea.count(14));
        Check.due("refusals -6", 4, sea.count(16));
    }

    private static void feedOrder() {
        HalfSea sea = new HalfSea();
        // 'r' stands above the two bytes that are fed, so it must not come
        Check.due("feed(2) of three bytes", 2, sea.feed(2, 'A' | 'b' << 8 | 'r' << 16));
        Check.due("feed(1) more", 3, sea.feed(1, '.'));
        Check.due("read", 3, sea.read());
        Check.due("lowest byte first", 1, sea.cell(0));
        Check.due("then the next", 5, sea.cell(100));
        Check.due("then the next feed's", 0, sea.cell(200));
        Check.due("the eighth byte", 8, sea.feed(8, 0x722E2E2E2E2E2E2EL));
        Check.due("read of eight", 8, sea.read());
        Check.due("the eighth byte is a rock", 7, sea.cell(700));
    }

    private static void readSizes() {
        StringBuilder text = new StringBuilder("............");
        for (int line = 2; line <= 10; line++) {
            text.append("/...........r");
        }
        HalfSea sea = new HalfSea();
        Check.due("feed of 129", 129, Check.feed(sea, text.toString()));
        Check.due("read of 12 by 10", 120, sea.read());
        Check.due("wide", 12, sea.count(0));
        Check.due("high", 10, sea.count(1));
        Check.due("cells of sea", 111, sea.count(2));
        Check.due("tape is empty", 0, sea.count(4));
        Check.due("last cell", 7, sea.cell(1109));
        for (int xy : new int[] {1200, 1201, 1209, 10, 110, 1110, 1210}) {
            Check.due("cell(" + xy + ") of 12 by 10", -1, sea.cell(xy));
        }
        Check.due("a smaller one after it", 6, Check.readInto(sea, "..B/A.."));
        Check.due("its wide", 3, sea.count(0));
        Check.due("its high", 2, sea.count(1));
        Check.due("its cells of sea", 4, sea.count(2));
        Check.due("nothing is left of the greater", -1, sea.cell(300));
        Check.due("nor below", -1, sea.cell(2));
        Check.due("x rightwards", 2, sea.cell(200));
        Check.due("y downwards", 1, sea.cell(1));
    }

    private static void fault(String text, int place) {
        HalfSea sea = Check.sea("A.r");
        Check.due("read of '" + text + "'", -20 - place, Check.readInto(sea, text));
        Check.due("tape after a fault in '" + text + "'", 0, sea.count(4));
        Check.due("refusals after a fault", 0, Check.refused(sea));
        Check.due("wide after a fault", 3, sea.count(0));
        Check.due("high after a fault", 1, sea.count(1));
        Check.due("cell after a fault", 7, sea.cell(200));
    }

    private static void readFaults() {
        fault("", 0);
        fault("/", 0);
        fault("/A", 0);
        fault("x", 0);
        fault("D", 0);
        fault("R", 0);
        fault("\0", 0);
        fault("\u00ff", 0);
        fault("A.d", 2);
        fault("A/", 2);
        fault("A//A", 2);
        fault("A../B/C..", 5);
        fault("A../B", 5);
        fault("A../B.", 6);
        fault("A../", 4);
        fault("A./B../..", 5);
        fault("A./B.x", 5);
        fault("A./x", 3);
        fault(".............", 12);
        fault("............x", 12);
        fault("............/.............", 25);
        fault("./././././././././././.", 19);
        fault("././././././././././", 19);
        fault("././././././././././x", 19);
        fault("./././././././././.x", 19);
        fault("../../../../../../../../../../..", 29);
        fault("../../../../../../../../../.", 28);
    }

    private static void readKeepsAndDrops() {
        HalfSea sea = Check.sea("A..");
        sea.rule(2, 7);
        sea.well(100, 5);
        sea.put(3);
        Check.due("a fault", -21, Check.readInto(sea, ".x"));
        Check.due("wells stay at a fault", 1, sea.count(3));
        Check.due("read", 3, Check.readInto(sea, "A.."));
        Check.due("wells are none", 0, sea.count(3));
        Check.due("worth of none", 0, sea.worth(0));
        Check.due("rules stay", 7, sea.rule(2, 20));
        Check.due("the row stays", 1, sea.count(5));
    }

    private static void cellKinds() {
        HalfSea sea = Check.sea(".ABCabcr");
        for (int x = 0; x < 8; x++) {
            Check.due("cell(" + 100 * x + ")", x, sea.cell(100 * x));
        }
        HalfSea high = Check.sea("./A/B/C/a/b/c/r");
        for (int y = 0; y < 8; y++) {
            Check.due("cell(" + y + ")", y, high.cell(y));
        }
    }

    private static void cellNobody() {
        HalfSea sea = Check.sea("A../..r");
        int[] none = {-1, -100, 2, 99, 10, 102, 300, 301, 1200, 1109, 1201, 10000,
            Integer.MIN_VALUE, Integer.MAX_VALUE};
        for (int k = 0; k < none.length; k++) {
            Check.due("cell(" + none[k] + ")", -1, sea.cell(none[k]));
            Check.due("refusals -1", k + 1, sea.count(11));
        }
        Check.due("cell(201)", 7, sea.cell(201));
    }
}
