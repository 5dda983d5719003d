/** Promise 3: read, with the TEXT and its FAULTS. */
public final class Promise03ReadTest {
    private static final String SIGNS = ".ABCabcr";

    public static void main(String[] args) throws IllegalAccessException {
        Check.runEach(Promise03ReadTest.class);
    }

    /** A text with a fault must leave all as it was but for the tape, and is no refusal. */
    private static void fault(String text, int place) {
        HalfSea sea = emptied();
        HalfSea twin = emptied();
        Check.due("read of '" + text + "'", -20 - place, Check.readInto(sea, text));
        Check.due("the tape after '" + text + "'", 0, sea.count(4));
        for (int what = 11; what <= 16; what++) {
            Check.due("count(" + what + ") after '" + text + "'", twin.count(what), sea.count(what));
        }
        Refusal.same("a fault in '" + text + "'", sea, twin);
    }

    private static HalfSea emptied() {
        HalfSea sea = Refusal.busySea();
        Check.readInto(sea, "x");
        return sea;
    }

    private static void taken(String text, int wide, int high) {
        HalfSea sea = new HalfSea();
        Check.due("read of '" + text + "'", wide * high, Check.readInto(sea, text));
        Check.due("its wide", wide, sea.count(0));
        Check.due("its high", high, sea.count(1));
        Check.due("the tape after it", 0, sea.count(4));
    }

    static void leastIsOneCell() {
        for (int kind = 0; kind < SIGNS.length(); kind++) {
            HalfSea sea = Check.sea(SIGNS.substring(kind, kind + 1));
            Check.due("wide", 1, sea.count(0));
            Check.due("high", 1, sea.count(1));
            Check.due("its kind", kind, sea.cell(0));
        }
    }

    static void greatestIs12By10Of129Bytes() {
        String text = Check.greatest('A', '.');
        Check.due("its bytes", 129, text.length());
        taken(text, 12, 10);
    }

    static void widestIs12() {
        taken("............", 12, 1);
    }

    static void highestIs10() {
        taken(Check.lines(".", 10), 1, 10);
    }

    static void everySizeIsTaken() {
        for (int wide = 1; wide <= 12; wide++) {
            for (int high = 1; high <= 10; high++) {
                taken(Check.lines("r".repeat(wide), high), wide, high);
            }
        }
    }

    static void emptyTextHasItsFaultAtTheEnd() {
        fault("", 0);
        Check.due("of a new object", -20, new HalfSea().read());
    }

    static void everyOtherByteIsAFault() {
        for (int sign = 0; sign < 256; sign++) {
            HalfSea sea = new HalfSea();
            sea.feed(1, sign);
            boolean isCell = sign != 0 && SIGNS.indexOf(sign) >= 0;
            Check.due("read of byte " + sign, isCell ? 1 : -20, sea.read());
        }
    }

    static void everyOtherByteBehindACellIsAFault() {
        for (int sign = 0; sign < 256; sign++) {
            HalfSea sea = new HalfSea();
            sea.feed(2, 'A' | sign << 8);
            boolean isCell = sign != 0 && SIGNS.indexOf(sign) >= 0;
            // behind "/" a line is missing: the end
            Check.due("read of A and byte " + sign, isCell ? 2 : sign == '/' ? -22 : -21, sea.read());
        }
    }

    static void wrongByteHasItsOwnPlace() {
        fault("x", 0);
        fault("D", 0);
        fault("R", 0);
        fault("\0", 0);
        fault("\u00ff", 0);
        fault("A.d", 2);
        fault("A./x", 3);
        fault("A./B.x", 5);
    }

    static void firstOfTwoFaultsIsTold() {
        fault("A.x/y.", 2);
        fault("A../B/x", 5);
        fault("A./B.x/", 5);
        fault("xyz", 0);
        fault("./............./x", 3);
    }

    static void lineTooShortHasItAtItsEnd() {
        fault("A../B/C..", 5);
        fault("A../B./C..", 6);
        fault("A../..././", 9);
    }

    static void lastLineTooShortHasItAtTheEndOfTheText() {
        fault("A../B", 5);
        fault("A../B.", 6);
        fault(Check.lines("..", 9) + "/.", 28);
    }

    static void lineTooLongHasItAtTheFirstCellMore() {
        fault("A./B../..", 5);
        fault("A/..", 3);
        fault("./.........", 3);
    }

    static void emptyLineIsTooShort() {
        fault("/", 0);
        fault("/A", 0);
        fault("//", 0);
        fault("A//A", 2);
        fault("A../", 4);
        fault("A/", 2);
    }

    static void thirteenthCellIsItsOwnFault() {
        fault(".............", 12);
        fault("............x", 12);
        fault("............./............", 12);
        fault("............/.............", 25);
    }

    static void eleventhLineIsTheFaultOfTheStrokeAhead() {
        fault(Check.lines(".", 11), 19);
        fault(Check.lines("..", 11), 29);
        fault(Check.lines("...........", 10) + "/", 119);
        fault(Check.lines(".", 10) + "/x", 19);
        fault(Check.lines(".", 10) + "/", 19);
        fault(Check.lines(".", 10) + "//", 19);
    }

    static void faultInTheTenthLineIsItsOwn() {
        fault(Check.lines(".", 9) + "/x", 18);
        fault(Check.lines(".", 10) + "x", 19);
        fault(Check.lines(".", 9) + "//", 18);
    }

    static void tapeIsEmptyAfterRead() {
        HalfSea sea = Check.sea("A.");
        Check.due("bytes on the tape", 0, sea.count(4));
        Check.due("read again", -20, sea.read());
        Check.due("the sea is as it was", 2, sea.count(0));
    }

    static void tapeIsEmptyAfterAFault() {
        HalfSea sea = new HalfSea();
        Check.due("a fault", -21, Check.readInto(sea, "Ax"));
        Check.due("bytes on the tape", 0, sea.count(4));
        Check.due("a right text after it", 2, Check.readInto(sea, "B."));
        Check.due("nothing is left of the other", 2, sea.cell(0));
    }

    static void faultIsNoRefusal() {
        HalfSea sea = new HalfSea();
        for (String text : new String[] {"", "x", "/", "A/", ".............", Check.lines(".", 11)}) {
            Check.holds("read of " + text, Check.readInto(sea, text) <= -20);
        }
        Check.due("all refusals", 0, Check.refused(sea));
    }

    static void readTakesThePlaceOfWhatWas() {
        HalfSea sea = Check.sea(Check.greatest('r', 'A'));
        Check.due("a smaller one", 6, Check.readInto(sea, "..B/A.."));
        Check.due("its wide", 3, sea.count(0));
        Check.due("its high", 2, sea.count(1));
        Check.due("its cells of sea", 4, sea.count(2));
        Check.due("no cell beside it", -1, sea.cell(300));
        Check.due("no cell below it", -1, sea.cell(2));
        Check.due("x goes rightwards", 2, sea.cell(200));
        Check.due("y goes downwards", 1, sea.cell(1));
        Check.due("near of it alone", 4, sea.near(201, 0));
        Check.due("shore of it alone", 1, sea.shore(0));
        Check.due("a greater one", 120, Check.readInto(sea, Check.greatest('.', 'C')));
        Check.due("its last cell", 3, sea.cell(1109));
        Check.due("its first cell", 0, sea.cell(0));
    }

    static void wellsAreNoneThen() {
        HalfSea sea = Check.sea("A..");
        sea.well(100, 5);
        sea.well(200, 5);
        Check.due("read", 3, Check.readInto(sea, "A.."));
        Check.due("wells", 0, sea.count(3));
        Check.due("worth(0)", 0, sea.worth(0));
        for (int k = 1; k <= 12; k++) {
            Check.due("room for well " + k, k, sea.well(100, 1));
        }
    }

    static void rulesRowAndImageStay() {
        HalfSea sea = Check.sea("A.B.", 4, 1, 7, -3);
        sea.image();
        sea.put(3);
        Check.due("read", 2, Check.readInto(sea, ".C"));
        int[] due = {4, 1, 7, -3};
        for (int rule = 0; rule < due.length; rule++) {
            Check.due("rule " + rule, due[rule], sea.rule(rule, due[rule]));
        }
        Check.due("bytes of the row", 1, sea.count(5));
        Check.due("on", 4, sea.on());
        Check.due("the image is as it was", 2, sea.cell(200));
    }
}
