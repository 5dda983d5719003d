import java.util.Arrays;

/** A sea in cells between the coasts of three lands, and whose its cells are; see README.md. */
public final class HalfSea {

    private static final int LANDS = 3;
    private static final int MOST_WIDE = 12;
    private static final int MOST_HIGH = 10;
    private static final int MOST_CELLS = 120;
    private static final int MOST_TEXT = 129;
    private static final int MOST_BYTES = 8;
    private static final int MOST_WELLS = 12;
    private static final int MOST_WORTH = 99;
    private static final int MOST_UNFAIR = 999999;
    private static final int MOST_BEND = 50;
    private static final int MOST_PUT = 9;
    private static final int OPTIONS = 12;

    private static final int SEA = 0;
    private static final int FIRST_COAST = 1;
    private static final int FIRST_ISLAND = 4;
    private static final int ROCK = 7;
    private static final int OUTSIDE = 8;
    /** The place of a sign is the kind of its cell. */
    private static final String SIGNS = ".ABCabcr";
    private static final int LINE_END = '/';

    private static final int MOUTH = 0;
    private static final int WEIGHT = 1;
    private static final int REACH = 2;
    private static final int BEND = 3;

    private static final int EVEN = -2;
    private static final int HIGH_SEA = -3;
    private static final int NONE = -9;
    private static final int NO_SUCH_CELL = -10;
    private static final int NO_BEND = -100;
    private static final int ROW_TOO_LONG = 9999;
    private static final int FAULT_BASE = -20;

    private static final int NOBODY = -1;
    private static final int STATE = -3;
    private static final int BELOW = -4;
    private static final int ROOM = -6;
    private static final int REFUSAL_KINDS = 6;
    /** rule() may rightly answer a number below 0, so its refusals stand far away from them. */
    private static final int RULE_REFUSED = 1000000000;

    private final Tape tape = new Tape();
    private final Waters waters = new Waters();
    private final Waters kept = new Waters();
    private final Rules option = new Rules();
    private final Chart chart = new Chart();
    private final Chart otherChart = new Chart();
    private final EvenCells evenCells = new EvenCells();
    private final int[] row = new int[MOST_CELLS];
    private final int[] refusals = new int[REFUSAL_KINDS + 1];
    private int rowLength = 0;
    private boolean hasImage = false;

    public HalfSea() {
    }

    public int feed(int n, long bytes) {
        if (n < 1) {
            return refuse(BELOW);
        }
        if (n > MOST_BYTES || tape.length + n > MOST_TEXT) {
            return refuse(ROOM);
        }
        tape.add(n, bytes);
        return tape.length;
    }

    public int read() {
        int fault = tape.firstFault();
        if (fault < 0) {
            tape.pourInto(waters);
        }
        tape.length = 0;
        return fault < 0 ? waters.size() : FAULT_BASE - fault;
    }

    public int cell(int xy) {
        int at = waters.placeOf(xy);
        return at < 0 ? refuse(NOBODY) : waters.kindOf(at);
    }

    public int rule(int rule, int v) {
        if (rule < MOUTH || rule > BEND) {
            return RULE_REFUSED - refuse(NOBODY);
        }
        if (v < Rules.least(rule)) {
            return RULE_REFUSED - refuse(BELOW);
        }
        if (v > Rules.greatest(rule)) {
            return RULE_REFUSED - refuse(ROOM);
        }
        int was = waters.rules.get(rule);
        waters.rules.set(rule, v);
        return was;
    }

    public int inner(int xy) {
        int at = waters.placeOf(xy);
        if (at < 0) {
            return refuse(NOBODY);
        }
        layBasesAsItIs();
        return chart.innerOf(at);
    }

    public int near(int xy, int land) {
        int at = waters.placeOf(xy);
        if (at < 0 || !isLand(land)) {
            return refuse(NOBODY);
        }
        layBasesAsItIs();
        int base = chart.nearestBase(at, land);
        return base < 0 ? NONE : chart.squareTo(at, base);
    }

    public int from(int xy, int land) {
        int at = waters.placeOf(xy);
        if (at < 0 || !isLand(land)) {
            return refuse(NOBODY);
        }
        layBasesAsItIs();
        return toldOf(chart.placeOfBase(chart.nearestBase(at, land)));
    }

    public int whose(int xy) {
        int at = waters.placeOf(xy);
        if (at < 0) {
            return NO_SUCH_CELL;
        }
        drawAsItIs();
        return chart.ownerOf(at);
    }

    public int third() {
        drawAsItIs();
        return chart.thirds;
    }

    public int area(int land) {
        if (!isLand(land) && land != EVEN && land != HIGH_SEA) {
            return refuse(NOBODY);
        }
        drawAsItIs();
        return chart.areaOf(land);
    }

    public int shore(int land) {
        return isLand(land) ? waters.shoreOf(land) : refuse(NOBODY);
    }

    public int fair() {
        drawAsItIs();
        return fairness();
    }

    public int bent(int v) {
        if (v < 0) {
            return refuse(BELOW);
        }
        if (v > MOST_UNFAIR) {
            return refuse(ROOM);
        }
        layBasesAsItIs();
        chart.measure(waters);
        for (int bend = 0; bend <= MOST_BEND; bend++) {
            if (isFairWith(bend, v)) {
                return bend;
            }
            if (isFairWith(-bend, v)) {
                return -bend;
            }
        }
        return NO_BEND;
    }

    public int pieces() {
        drawAsItIs();
        return evenCells.countParts(chart);
    }

    public int turnings() {
        drawAsItIs();
        return evenCells.countTurns(chart);
    }

    public int moves(int xy) {
        int at = waters.placeOf(xy);
        if (at < 0) {
            return refuse(NOBODY);
        }
        if (!isCoastOrIsland(waters.kindOf(at))) {
            return refuse(STATE);
        }
        drawAsItIs();
        return movedWithout(at);
    }

    public int most() {
        drawAsItIs();
        int best = -1;
        int bestMoved = -1;
        for (int at = 0; at < MOST_CELLS; at++) {
            if (isCoastOrIsland(waters.kindOf(at))) {
                int moved = movedWithout(at);
                if (moved > bestMoved) {
                    best = at;
                    bestMoved = moved;
                }
            }
        }
        return toldOf(best);
    }

    public int well(int xy, int v) {
        int at = waters.placeOf(xy);
        if (at < 0) {
            return refuse(NOBODY);
        }
        if (waters.kindOf(at) != SEA) {
            return refuse(STATE);
        }
        if (v < 1) {
            return refuse(BELOW);
        }
        if (v > MOST_WORTH || waters.wells >= MOST_WELLS) {
            return refuse(ROOM);
        }
        waters.addWell(at, v);
        return waters.wells;
    }

    public int worth(int land) {
        if (!isLand(land)) {
            return refuse(NOBODY);
        }
        drawAsItIs();
        return waters.worthOf(land, chart);
    }

    public int chosen(int land) {
        return isLand(land) ? Rules.optionNumber(bestOption(land)) : refuse(NOBODY);
    }

    public int claims() {
        drawClaims();
        int both = 0;
        for (int at = 0; at < MOST_CELLS; at++) {
            if (claimOn(at) == 3) {
                both++;
            }
        }
        return both;
    }

    public int claimed(int xy) {
        int at = waters.placeOf(xy);
        if (at < 0) {
            return refuse(NOBODY);
        }
        drawClaims();
        return claimOn(at);
    }

    public int meet(int one, int other) {
        if (one < 0 || other < 0) {
            return refuse(BELOW);
        }
        if (one > MOST_CELLS || other > MOST_CELLS) {
            return refuse(ROOM);
        }
        for (int k = 0; k < OPTIONS; k++) {
            option.becomeOption(waters.rules, k);
            chart.draw(waters, option);
            if (chart.areaOf(0) >= one && chart.areaOf(1) >= other) {
                return Rules.optionNumber(k);
            }
        }
        return NONE;
    }

    public int put(int v) {
        if (v < -MOST_PUT) {
            return refuse(BELOW);
        }
        if (v > MOST_PUT || rowLength < 0 || rowLength >= row.length) {
            return refuse(ROOM);
        }
        row[rowLength] = v;
        rowLength++;
        return rowLength;
    }

    public int judge() {
        drawAsItIs();
        int wrong = firstWrong();
        rowLength = 0;
        return wrong;
    }

    public int grow(int xy, int land) {
        int at = waters.placeOf(xy);
        if (at < 0 || !isLand(land)) {
            return refuse(NOBODY);
        }
        if (waters.kindOf(at) != SEA) {
            return refuse(STATE);
        }
        waters.setKind(at, FIRST_COAST + land);
        waters.dropWells(at);
        return 1;
    }

    public int drown(int xy) {
        int at = waters.placeOf(xy);
        if (at < 0) {
            return refuse(NOBODY);
        }
        int was = waters.kindOf(at);
        if (was == SEA) {
            return refuse(STATE);
        }
        waters.setKind(at, SEA);
        return was;
    }

    public int image() {
        kept.copyFrom(waters);
        hasImage = true;
        return kept.size();
    }

    public int on() {
        if (!hasImage) {
            return refuse(STATE);
        }
        waters.copyFrom(kept);
        return waters.size();
    }

    public int count(int what) {
        switch (what) {
            case 0:
                return waters.wide;
            case 1:
                return waters.high;
            case 2:
                return waters.cellsOfSea();
            case 3:
                return waters.wells;
            case 4:
                return tape.length;
            case 5:
                return rowLength;
            default:
                return what > 10 && what <= 10 + REFUSAL_KINDS ? refusals[what - 10] : NONE;
        }
    }

    private int refuse(int refusal) {
        int kind = -refusal;
        if (kind > 0 && kind < refusals.length) {
            refusals[kind]++;
        }
        return refusal;
    }

    private void layBasesAsItIs() {
        chart.closeBays(waters, waters.rules.mouth);
        chart.layBases(waters, waters.rules.weight);
    }

    private void drawAsItIs() {
        chart.draw(waters, waters.rules);
    }

    private int fairness() {
        return chart.areaOf(0) * waters.shoreOf(1) - chart.areaOf(1) * waters.shoreOf(0);
    }

    /** The squares do not depend on the bend, so they are measured but once by the caller. */
    private boolean isFairWith(int bend, int unfair) {
        chart.shareOut(waters, waters.rules.reach, bend);
        return Math.abs(fairness()) <= unfair;
    }

    /** Needs the chart drawn as it is; the cell is made sea for a moment alone. */
    private int movedWithout(int at) {
        int kind = waters.kindOf(at);
        waters.setKind(at, SEA);
        otherChart.draw(waters, waters.rules);
        waters.setKind(at, kind);
        return chart.differences(otherChart, at);
    }

    /** Options go by rising number, so that the first of equal ones is the one with the least. */
    private int bestOption(int land) {
        int best = 0;
        int bestWorth = -1;
        int bestArea = -1;
        for (int k = 0; k < OPTIONS; k++) {
            option.becomeOption(waters.rules, k);
            chart.draw(waters, option);
            int worth = waters.worthOf(land, chart);
            int area = chart.areaOf(land);
            if (worth > bestWorth || worth == bestWorth && area > bestArea) {
                best = k;
                bestWorth = worth;
                bestArea = area;
            }
        }
        return best;
    }

    private void drawClaims() {
        int zeros = bestOption(0);
        int ones = bestOption(1);
        option.becomeOption(waters.rules, zeros);
        chart.draw(waters, option);
        option.becomeOption(waters.rules, ones);
        otherChart.draw(waters, option);
    }

    /** Needs the charts of drawClaims(). */
    private int claimOn(int at) {
        int byZero = chart.ownerOf(at) == 0 ? 1 : 0;
        int byOne = otherChart.ownerOf(at) == 1 ? 2 : 0;
        return byZero + byOne;
    }

    private int firstWrong() {
        int place = 0;
        for (int at = 0; at < MOST_CELLS; at++) {
            int kind = waters.kindOf(at);
            if (kind != OUTSIDE) {
                if (place >= rowLength || place >= row.length) {
                    return toldOf(at);
                }
                if (kind == SEA && row[place] != chart.ownerOf(at)) {
                    return toldOf(at);
                }
                place++;
            }
        }
        return place < rowLength ? ROW_TOO_LONG : NONE;
    }

    private static boolean isLand(int land) {
        return land >= 0 && land < LANDS;
    }

    private static boolean isCoastOrIsland(int kind) {
        return kind >= FIRST_COAST && kind < ROCK;
    }

    private static int toldOf(int at) {
        return at < 0 ? NONE : 100 * (at % MOST_WIDE) + at / MOST_WIDE;
    }

    /** The bytes that have come and were not read yet. */
    private static final class Tape {
        private final int[] signs = new int[MOST_TEXT];
        private int length = 0;

        void add(int n, long bytes) {
            for (int k = 0; k < n && k < MOST_BYTES; k++) {
                if (length >= 0 && length < signs.length) {
                    signs[length] = (int) (bytes >>> (8 * k)) & 255;
                    length++;
                }
            }
        }

        int signAt(int place) {
            return place >= 0 && place < length && place < signs.length ? signs[place] : -1;
        }

        /** Below 0 if no cell can be written so. */
        int kindAt(int place) {
            int sign = signAt(place);
            return sign < 0 ? -1 : SIGNS.indexOf((char) sign);
        }

        int firstLine() {
            int wide = 0;
            while (wide < MOST_WIDE && kindAt(wide) >= 0) {
                wide++;
            }
            return wide;
        }

        /** Below 0 if there is none. */
        int firstFault() {
            int wide = firstLine();
            int x = 0;
            int y = 0;
            for (int place = 0; place < length; place++) {
                if (signAt(place) == LINE_END) {
                    if (x == 0 || x < wide || y + 1 >= MOST_HIGH) {
                        return place;
                    }
                    x = 0;
                    y++;
                } else {
                    if (x >= wide || kindAt(place) < 0) {
                        return place;
                    }
                    x++;
                }
            }
            return x == 0 || x < wide ? length : -1;
        }

        /** Only for a text without fault. */
        void pourInto(Waters waters) {
            waters.clear();
            int x = 0;
            int y = 0;
            for (int place = 0; place < length; place++) {
                int kind = kindAt(place);
                if (kind < 0) {
                    x = 0;
                    y++;
                } else {
                    waters.setKind(y * MOST_WIDE + x, kind);
                    x++;
                }
            }
            waters.wide = x;
            waters.high = y + 1;
        }
    }

    /** The rules by which the sea is shared out. */
    private static final class Rules {
        private int mouth = 0;
        private int weight = 2;
        private int reach = 20;
        private int bend = 0;

        static int least(int rule) {
            return rule == BEND ? -MOST_BEND : 0;
        }

        static int greatest(int rule) {
            switch (rule) {
                case MOUTH:
                    return 9;
                case WEIGHT:
                    return 2;
                case REACH:
                    return 20;
                default:
                    return MOST_BEND;
            }
        }

        int get(int rule) {
            switch (rule) {
                case MOUTH:
                    return mouth;
                case WEIGHT:
                    return weight;
                case REACH:
                    return reach;
                default:
                    return bend;
            }
        }

        void set(int rule, int v) {
            switch (rule) {
                case MOUTH:
                    mouth = v;
                    break;
                case WEIGHT:
                    weight = v;
                    break;
                case REACH:
                    reach = v;
                    break;
                default:
                    bend = v;
                    break;
            }
        }

        void copyFrom(Rules other) {
            mouth = other.mouth;
            weight = other.weight;
            reach = other.reach;
            bend = other.bend;
        }

        void becomeOption(Rules now, int k) {
            weight = k / 4;
            mouth = k / 2 % 2 == 1 ? now.mouth : 0;
            reach = k % 2 == 1 ? now.reach / 2 : now.reach;
            bend = now.bend;
        }

        static int optionNumber(int k) {
            return 100 * (k / 4) + 10 * (k / 2 % 2) + k % 2;
        }
    }

    /**
     * What an image keeps: the cells, the rules, the wells. Every line takes MOST_WIDE places,
     * those beside the sea being OUTSIDE: so the places rise by y, then x, however wide it is.
     */
    private static final class Waters {
        private int wide = 1;
        private int high = 1;
        private int wells = 0;
        private final int[] kinds = new int[MOST_CELLS];
        private final int[] wellPlaces = new int[MOST_WELLS];
        private final int[] wellWorths = new int[MOST_WELLS];
        private final Rules rules = new Rules();

        Waters() {
            Arrays.fill(kinds, OUTSIDE);
            kinds[0] = SEA;
        }

        void clear() {
            Arrays.fill(kinds, OUTSIDE);
            wells = 0;
        }

        void copyFrom(Waters other) {
            wide = other.wide;
            high = other.high;
            wells = other.wells;
            rules.copyFrom(other.rules);
            for (int at = 0; at < MOST_CELLS; at++) {
                kinds[at] = other.kinds[at];
            }
            for (int w = 0; w < MOST_WELLS; w++) {
                wellPlaces[w] = other.wellPlaces[w];
                wellWorths[w] = other.wellWorths[w];
            }
        }

        int size() {
            return wide * high;
        }

        int kindOf(int at) {
            return at >= 0 && at < kinds.length ? kinds[at] : OUTSIDE;
        }

        int kindAt(int x, int y) {
            return x < 0 || x >= MOST_WIDE || y < 0 || y >= MOST_HIGH
                    ? OUTSIDE : kinds[y * MOST_WIDE + x];
        }

        void setKind(int at, int kind) {
            if (at >= 0 && at < kinds.length) {
                kinds[at] = kind;
            }
        }

        /** Below 0 if there is no such cell. */
        int placeOf(int xy) {
            int at = xy < 0 ? -1 : placeAt(xy / 100, xy % 100);
            return kindOf(at) == OUTSIDE ? -1 : at;
        }

        static int placeAt(int x, int y) {
            return x < 0 || x >= MOST_WIDE || y < 0 || y >= MOST_HIGH ? -1 : y * MOST_WIDE + x;
        }

        int cellsOfSea() {
            int cells = 0;
            for (int at = 0; at < MOST_CELLS; at++) {
                if (kinds[at] == SEA) {
                    cells++;
                }
            }
            return cells;
        }

        int shoreOf(int land) {
            int shore = 0;
            for (int at = 0; at < MOST_CELLS; at++) {
                if (kinds[at] == FIRST_COAST + land && hasSeaBeside(at % MOST_WIDE, at / MOST_WIDE)) {
                    shore++;
                }
            }
            return shore;
        }

        boolean hasSeaBeside(int x, int y) {
            return kindAt(x - 1, y) == SEA || kindAt(x + 1, y) == SEA
                    || kindAt(x, y - 1) == SEA || kindAt(x, y + 1) == SEA;
        }

        void addWell(int at, int worth) {
            if (wells >= 0 && wells < MOST_WELLS) {
                wellPlaces[wells] = at;
                wellWorths[wells] = worth;
                wells++;
            }
        }

        void dropWells(int at) {
            int left = 0;
            for (int w = 0; w < wells && w < MOST_WELLS; w++) {
                if (wellPlaces[w] != at) {
                    wellPlaces[left] = wellPlaces[w];
                    wellWorths[left] = wellWorths[w];
                    left++;
                }
            }
            wells = left;
        }

        int worthOf(int land, Chart chart) {
            int worth = 0;
            for (int w = 0; w < wells && w < MOST_WELLS; w++) {
                if (chart.ownerOf(wellPlaces[w]) == land) {
                    worth += wellWorths[w];
                }
            }
            return worth;
        }
    }

    /** Whose each cell is by some rules; made once and drawn again for each question. */
    private static final class Chart {
        private final int[] inner = new int[MOST_CELLS];
        private final int[] owners = new int[MOST_CELLS];
        /** The nears of a cell to the lands stand together. */
        private final int[] nears = new int[MOST_CELLS * LANDS];
        /** Bases stand land by land, in each by place: those of a land end where the next one's start. */
        private final int[] basePlaces = new int[MOST_CELLS];
        private final int[] baseFactors = new int[MOST_CELLS];
        private final int[] baseStarts = new int[LANDS + 1];
        private int bases = 0;
        private int thirds = 0;

        void draw(Waters waters, Rules rules) {
            closeBays(waters, rules.mouth);
            layBases(waters, rules.weight);
            measure(waters);
            shareOut(waters, rules.reach, rules.bend);
        }

        /** Needs the bays closed, for inner waters are bases too. */
        void layBases(Waters waters, int weight) {
            bases = 0;
            for (int land = 0; land < LANDS; land++) {
                baseStarts[land] = bases;
                for (int at = 0; at < MOST_CELLS; at++) {
                    int kind = waters.kindOf(at);
                    if (kind == FIRST_COAST + land || inner[at] == land) {
                        addBase(at, 1);
                    } else if (kind == FIRST_ISLAND + land && weight > 0) {
                        addBase(at, weight == 1 ? 4 : 1);
                    }
                }
            }
            baseStarts[LANDS] = bases;
        }

        void addBase(int at, int factor) {
            if (bases >= 0 && bases < MOST_CELLS) {
                basePlaces[bases] = at;
                baseFactors[bases] = factor;
                bases++;
            }
        }

        void closeBays(Waters waters, int mouth) {
            Arrays.fill(inner, NONE);
            for (int at = 0; at < MOST_CELLS; at++) {
                int kind = waters.kindOf(at);
                if (kind >= FIRST_COAST && kind < FIRST_ISLAND) {
                    closeBay(waters, mouth, at, 1, 0);
                    closeBay(waters, mouth, at, 0, 1);
                }
            }
        }

        /** Rightwards and downwards are enough: each bay is met from its first coast. */
        void closeBay(Waters waters, int mouth, int at, int stepX, int stepY) {
            int x = at % MOST_WIDE;
            int y = at / MOST_WIDE;
            int cells = 0;
            while (cells < mouth
                    && waters.kindAt(x + (cells + 1) * stepX, y + (cells + 1) * stepY) == SEA) {
                cells++;
            }
            int coast = waters.kindOf(at);
            if (waters.kindAt(x + (cells + 1) * stepX, y + (cells + 1) * stepY) == coast) {
                for (int k = 1; k <= cells; k++) {
                    markInner(Waters.placeAt(x + k * stepX, y + k * stepY), coast - FIRST_COAST);
                }
            }
        }

        void markInner(int at, int land) {
            if (at >= 0 && at < MOST_CELLS && (inner[at] == NONE || land < inner[at])) {
                inner[at] = land;
            }
        }

        void measure(Waters waters) {
            for (int at = 0; at < MOST_CELLS; at++) {
                if (waters.kindOf(at) == SEA && inner[at] == NONE) {
                    for (int land = 0; land < LANDS; land++) {
                        int base = nearestBase(at, land);
                        nears[at * LANDS + land] = base < 0 ? NONE : squareTo(at, base);
                    }
                }
            }
        }

        /** Needs the bases laid and the nears measured. */
        void shareOut(Waters waters, int reach, int bend) {
            thirds = 0;
            for (int at = 0; at < MOST_CELLS; at++) {
                if (waters.kindOf(at) != SEA) {
                    owners[at] = NONE;
                } else if (inner[at] != NONE) {
                    owners[at] = inner[at];
                } else {
                    owners[at] = nearestLand(at, reach * reach, bend);
                }
            }
        }

        int nearestLand(int at, int mostSquare, int bend) {
            int owner = HIGH_SEA;
            int least = 0;
            int same = 0;
            for (int land = 0; land < LANDS; land++) {
                int square = nearOf(at, land);
                if (square >= 0 && square <= mostSquare) {
                    int weighed = square * percent(land, bend);
                    if (owner == HIGH_SEA || weighed < least) {
                        owner = land;
                        least = weighed;
                        same = 1;
                    } else if (weighed == least) {
                        owner = EVEN;
                        same++;
                    }
                }
            }
            if (same == LANDS) {
                thirds++;
            }
            return owner;
        }

        static int percent(int land, int bend) {
            if (land == 0) {
                return 100 - bend;
            }
            return land == 1 ? 100 + bend : 100;
        }

        int nearOf(int at, int land) {
            int place = at * LANDS + land;
            return place >= 0 && place < nears.length ? nears[place] : NONE;
        }

        /** A number among the bases; below 0 if the land has none. */
        int nearestBase(int at, int land) {
            if (!isLand(land)) {
                return -1;
            }
            int nearest = -1;
            int least = 0;
            for (int base = baseStarts[land]; base < baseStarts[land + 1]; base++) {
                int square = squareTo(at, base);
                if (nearest < 0 || square < least) {
                    nearest = base;
                    least = square;
                }
            }
            return nearest;
        }

        int squareTo(int at, int base) {
            if (base < 0 || base >= MOST_CELLS) {
                return 0;
            }
            int alongX = at % MOST_WIDE - basePlaces[base] % MOST_WIDE;
            int alongY = at / MOST_WIDE - basePlaces[base] / MOST_WIDE;
            return (alongX * alongX + alongY * alongY) * baseFactors[base];
        }

        /** Below 0 if there is no such base. */
        int placeOfBase(int base) {
            return base >= 0 && base < MOST_CELLS ? basePlaces[base] : -1;
        }

        int innerOf(int at) {
            return at >= 0 && at < MOST_CELLS ? inner[at] : NONE;
        }

        int ownerOf(int at) {
            return at >= 0 && at < MOST_CELLS ? owners[at] : NONE;
        }

        boolean isEvenAt(int x, int y) {
            return ownerOf(Waters.placeAt(x, y)) == EVEN;
        }

        int areaOf(int owner) {
            int area = 0;
            for (int at = 0; at < MOST_CELLS; at++) {
                if (owners[at] == owner) {
                    area++;
                }
            }
            return area;
        }

        int differences(Chart other, int left) {
            int cells = 0;
            for (int at = 0; at < MOST_CELLS; at++) {
                if (at != left && owners[at] != other.owners[at]) {
                    cells++;
                }
            }
            return cells;
        }
    }

    /** The line of even cells on a chart, as it hangs together and turns. */
    private static final class EvenCells {
        /** The number of the part that a cell was found in; 0 in none yet. */
        private final int[] partOf = new int[MOST_CELLS];
        private final int[] queue = new int[MOST_CELLS];
        private int queued = 0;

        int countParts(Chart chart) {
            Arrays.fill(partOf, 0);
            int parts = 0;
            for (int at = 0; at < MOST_CELLS; at++) {
                if (chart.ownerOf(at) == EVEN && partOf[at] == 0) {
                    parts++;
                    followPart(chart, at, parts);
                }
            }
            return parts;
        }

        void followPart(Chart chart, int first, int part) {
            queued = 0;
            enqueue(chart, first, part);
            for (int next = 0; next < queued && next < MOST_CELLS; next++) {
                int x = queue[next] % MOST_WIDE;
                int y = queue[next] / MOST_WIDE;
                for (int stepY = -1; stepY <= 1; stepY++) {
                    for (int stepX = -1; stepX <= 1; stepX++) {
                        enqueue(chart, Waters.placeAt(x + stepX, y + stepY), part);
                    }
                }
            }
        }

        void enqueue(Chart chart, int at, int part) {
            if (at >= 0 && at < MOST_CELLS && queued >= 0 && queued < MOST_CELLS
                    && partOf[at] == 0 && chart.ownerOf(at) == EVEN) {
                partOf[at] = part;
                queue[queued] = at;
                queued++;
            }
        }

        int countTurns(Chart chart) {
            int turns = 0;
            for (int at = 0; at < MOST_CELLS; at++) {
                int x = at % MOST_WIDE;
                int y = at / MOST_WIDE;
                if (chart.isEvenAt(x, y)
                        && (chart.isEvenAt(x - 1, y) || chart.isEvenAt(x + 1, y))
                        && (chart.isEvenAt(x, y - 1) || chart.isEvenAt(x, y + 1))) {
                    turns++;
                }
            }
            return turns;
        }
    }
}
