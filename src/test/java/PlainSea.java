import java.util.ArrayList;
import java.util.Arrays;
import java.util.HashSet;
import java.util.List;
import java.util.Set;

/**
 * The document once more, written for plainness alone and by other ways than HalfSea: a grid of signs,
 * everything asked of it anew for each cell. ModelTest holds the two against each other.
 */
final class PlainSea {
    String[] grid = {"."};
    int[] rules = {0, 2, 20, 0};
    List<int[]> wells = new ArrayList<>();
    String tape = "";
    List<Integer> row = new ArrayList<>();
    int[] refused = new int[7];
    String[] keptGrid = null;
    int[] keptRules = null;
    List<int[]> keptWells = null;

    private int no(int number) {
        refused[-number]++;
        return number;
    }

    private int wide() {
        return grid[0].length();
    }

    private int high() {
        return grid.length;
    }

    private boolean isCell(int x, int y) {
        return x >= 0 && y >= 0 && x < wide() && y < high();
    }

    private boolean isTold(int xy) {
        return xy >= 0 && isCell(xy / 100, xy % 100);
    }

    private char at(int x, int y) {
        return isCell(x, y) ? grid[y].charAt(x) : '#';
    }

    private void set(int x, int y, char sign) {
        StringBuilder line = new StringBuilder(grid[y]);
        line.setCharAt(x, sign);
        grid = grid.clone();
        grid[y] = line.toString();
    }

    private static boolean isLand(int land) {
        return land >= 0 && land <= 2;
    }

    int feed(int n, long bytes) {
        if (n < 1) {
            return no(-4);
        }
        if (n > 8 || tape.length() + n > 129) {
            return no(-6);
        }
        for (int k = 0; k < n; k++) {
            tape += (char) (bytes >> 8 * k & 255);
        }
        return tape.length();
    }

    int read() {
        String text = tape;
        tape = "";
        for (int end = 0; end <= text.length(); end++) {
            // a start of the text that no more bytes could make a whole one ends with the fault
            if (end > 0 && !canBegin(text.substring(0, end))) {
                return -20 - (end - 1);
            }
        }
        if (!isWhole(text)) {
            return -20 - text.length();
        }
        grid = text.split("/");
        wells = new ArrayList<>();
        return wide() * high();
    }

    private static boolean isWhole(String text) {
        String[] lines = text.split("/", -1);
        for (String line : lines) {
            if (!line.matches("[.ABCabcr]{1,12}") || line.length() != lines[0].length()) {
                return false;
            }
        }
        return lines.length <= 10;
    }

    private static boolean canBegin(String start) {
        String[] lines = start.split("/", -1);
        String last = lines[lines.length - 1];
        if (lines.length == 1) {
            return last.matches("[.ABCabcr]{1,12}");
        }
        String ahead = start.substring(0, start.lastIndexOf('/'));
        return isWhole(ahead) && lines.length <= 10 && last.matches("[.ABCabcr]*")
                && last.length() <= lines[0].length();
    }

    int cell(int xy) {
        return isTold(xy) ? ".ABCabcr".indexOf(at(xy / 100, xy % 100)) : no(-1);
    }

    int rule(int rule, int v) {
        if (rule < 0 || rule > 3) {
            return 1000000000 - no(-1);
        }
        if (v < new int[] {0, 0, 0, -50}[rule]) {
            return 1000000000 - no(-4);
        }
        if (v > new int[] {9, 2, 20, 50}[rule]) {
            return 1000000000 - no(-6);
        }
        int was = rules[rule];
        rules[rule] = v;
        return was;
    }

    /** The cell's own row and column are looked at from it outwards. */
    private int innerOf(int x, int y) {
        if (at(x, y) != '.') {
            return -9;
        }
        int best = -9;
        for (int way = 0; way < 2; way++) {
            int dx = way == 0 ? 1 : 0;
            int dy = 1 - dx;
            int back = 1;
            while (at(x - back * dx, y - back * dy) == '.') {
                back++;
            }
            int ahead = 1;
            while (at(x + ahead * dx, y + ahead * dy) == '.') {
                ahead++;
            }
            char one = at(x - back * dx, y - back * dy);
            char other = at(x + ahead * dx, y + ahead * dy);
            if (one == other && "ABC".indexOf(one) >= 0 && back + ahead - 1 <= rules[0]) {
                int land = one - 'A';
                best = best == -9 ? land : Math.min(best, land);
            }
        }
        return best;
    }

    int inner(int xy) {
        return isTold(xy) ? innerOf(xy / 100, xy % 100) : no(-1);
    }

    /** The square and the base as told, or null. */
    private int[] nearest(int x, int y, int land) {
        int[] best = null;
        for (int by = 0; by < high(); by++) {
            for (int bx = 0; bx < wide(); bx++) {
                int square = (x - bx) * (x - bx) + (y - by) * (y - by);
                boolean base = at(bx, by) == 'A' + land || innerOf(bx, by) == land;
                if (at(bx, by) == 'a' + land && rules[1] > 0) {
                    base = true;
                    square *= rules[1] == 1 ? 4 : 1;
                }
                if (base && (best == null || square < best[0])) {
                    best = new int[] {square, 100 * bx + by};
                }
            }
        }
        return best;
    }

    private int nearOrFrom(int xy, int land, int which) {
        if (!isTold(xy) || !isLand(land)) {
            return no(-1);
        }
        int[] best = nearest(xy / 100, xy % 100, land);
        return best == null ? -9 : best[which];
    }

    int near(int xy, int land) {
        return nearOrFrom(xy, land, 0);
    }

    int from(int xy, int land) {
        return nearOrFrom(xy, land, 1);
    }

    private long[] counts(int x, int y) {
        int[] hundred = {100 - rules[3], 100 + rules[3], 100};
        long[] counts = new long[3];
        for (int land = 0; land < 3; land++) {
            int[] best = nearest(x, y, land);
            boolean reached = best != null && best[0] <= rules[2] * rules[2];
            counts[land] = reached ? (long) best[0] * hundred[land] : Long.MAX_VALUE;
        }
        return counts;
    }

    private int whoseIs(int x, int y) {
        if (at(x, y) != '.') {
            return -9;
        }
        if (innerOf(x, y) >= 0) {
            return innerOf(x, y);
        }
        long[] counts = counts(x, y);
        long least = Arrays.stream(counts).min().getAsLong();
        if (least == Long.MAX_VALUE) {
            return -3;
        }
        if (Arrays.stream(counts).filter(c -> c == least).count() > 1) {
            return -2;
        }
        return counts[0] == least ? 0 : counts[1] == least ? 1 : 2;
    }

    /** Whose each cell is, column by column. */
    private int[][] map() {
        int[][] map = new int[wide()][high()];
        for (int x = 0; x < wide(); x++) {
            for (int y = 0; y < high(); y++) {
                map[x][y] = whoseIs(x, y);
            }
        }
        return map;
    }

    int whose(int xy) {
        return isTold(xy) ? whoseIs(xy / 100, xy % 100) : -10;
    }

    int third() {
        int cells = 0;
        for (int x = 0; x < wide(); x++) {
            for (int y = 0; y < high(); y++) {
                long[] counts = counts(x, y);
                if (whoseIs(x, y) == -2 && counts[0] == counts[1] && counts[1] == counts[2]) {
                    cells++;
                }
            }
        }
        return cells;
    }

    private static int cellsOf(int[][] map, int owner) {
        return (int) Arrays.stream(map).flatMapToInt(Arrays::stream).filter(o -> o == owner).count();
    }

    int area(int land) {
        return isLand(land) || land == -2 || land == -3 ? cellsOf(map(), land) : no(-1);
    }

    private int shoreOf(int land) {
        int coasts = 0;
        for (int x = 0; x < wide(); x++) {
            for (int y = 0; y < high(); y++) {
                String beside = "" + at(x + 1, y) + at(x - 1, y) + at(x, y + 1) + at(x, y - 1);
                if (at(x, y) == 'A' + land && beside.contains(".")) {
                    coasts++;
                }
            }
        }
        return coasts;
    }

    int shore(int land) {
        return isLand(land) ? shoreOf(land) : no(-1);
    }

    int fair() {
        int[][] map = map();
        return cellsOf(map, 0) * shoreOf(1) - cellsOf(map, 1) * shoreOf(0);
    }

    int bent(int v) {
        if (v < 0) {
            return no(-4);
        }
        if (v > 999999) {
            return no(-6);
        }
        int was = rules[3];
        int best = -100;
        for (int bend = 50; bend >= -50; bend--) {
            rules[3] = bend;
            if (Math.abs(fair()) <= v && (best == -100 || Math.abs(bend) < Math.abs(best))) {
                best = bend;
            }
        }
        rules[3] = was;
        return best;
    }

    int pieces() {
        int[][] map = map();
        int parts = 0;
        for (int x = 0; x < wide(); x++) {
            for (int y = 0; y < high(); y++) {
                parts += sink(map, x, y) ? 1 : 0;
            }
        }
        return parts;
    }

    private boolean sink(int[][] map, int x, int y) {
        if (!isCell(x, y) || map[x][y] != -2) {
            return false;
        }
        map[x][y] = -9;
        for (int k = 0; k < 9; k++) {
            sink(map, x + k % 3 - 1, y + k / 3 - 1);
        }
        return true;
    }

    int turnings() {
        int turns = 0;
        int[][] map = map();
        Set<Integer> even = new HashSet<>();
        for (int x = 0; x < wide(); x++) {
            for (int y = 0; y < high(); y++) {
                if (map[x][y] == -2) {
                    even.add(1000 * x + y);
                }
            }
        }
        for (int e : even) {
            boolean inX = even.contains(e - 1000) || even.contains(e + 1000);
            boolean inY = even.contains(e - 1) || even.contains(e + 1);
            turns += inX && inY ? 1 : 0;
        }
        return turns;
    }

    private int moved(int x, int y) {
        int[][] ahead = map();
        String[] was = grid;
        set(x, y, '.');
        int[][] then = map();
        grid = was;
        int cells = 0;
        for (int i = 0; i < wide(); i++) {
            for (int k = 0; k < high(); k++) {
                cells += (i != x || k != y) && ahead[i][k] != then[i][k] ? 1 : 0;
            }
        }
        return cells;
    }

    int moves(int xy) {
        if (!isTold(xy)) {
            return no(-1);
        }
        return "ABCabc".indexOf(at(xy / 100, xy % 100)) < 0 ? no(-3) : moved(xy / 100, xy % 100);
    }

    int most() {
        int best = -9;
        int bestMoved = -1;
        for (int y = 0; y < high(); y++) {
            for (int x = 0; x < wide(); x++) {
                if ("ABCabc".indexOf(at(x, y)) >= 0 && moved(x, y) > bestMoved) {
                    best = 100 * x + y;
                    bestMoved = moved(x, y);
                }
            }
        }
        return best;
    }

    int well(int xy, int v) {
        if (!isTold(xy)) {
            return no(-1);
        }
        if (at(xy / 100, xy % 100) != '.') {
            return no(-3);
        }
        if (v < 1) {
            return no(-4);
        }
        if (v > 99 || wells.size() == 12) {
            return no(-6);
        }
        wells.add(new int[] {xy, v});
        return wells.size();
    }

    private int worthOf(int land) {
        int worth = 0;
        for (int[] well : wells) {
            worth += whoseIs(well[0] / 100, well[0] % 100) == land ? well[1] : 0;
        }
        return worth;
    }

    int worth(int land) {
        return isLand(land) ? worthOf(land) : no(-1);
    }

    /** Number, then the rules of the numbers. */
    private List<int[]> options() {
        List<int[]> options = new ArrayList<>();
        for (int half = 0; half < 2; half++) {
            for (int open = 0; open < 2; open++) {
                for (int weight = 0; weight < 3; weight++) {
                    options.add(new int[] {100 * weight + (open == 1 ? 0 : 10) + half,
                        open == 1 ? 0 : rules[0], weight, half == 1 ? rules[2] / 2 : rules[2], rules[3]});
                }
            }
        }
        options.sort((one, other) -> one[0] - other[0]);
        return options;
    }

    private int[] bestFor(int land) {
        int[] was = rules;
        int[] best = null;
        int bestCount = -1;
        for (int[] option : options()) {
            rules = Arrays.copyOfRange(option, 1, 5);
            int count = worthOf(land) * 1000 + cellsOf(map(), land);
            if (count > bestCount) {
                best = option;
                bestCount = count;
            }
            rules = was;
        }
        return best;
    }

    int chosen(int land) {
        return isLand(land) ? bestFor(land)[0] : no(-1);
    }

    private int[][] claimMap(int land) {
        int[] was = rules;
        rules = Arrays.copyOfRange(bestFor(land), 1, 5);
        int[][] map = map();
        rules = was;
        return map;
    }

    int claims() {
        int[][] zero = claimMap(0);
        int[][] one = claimMap(1);
        int both = 0;
        for (int x = 0; x < wide(); x++) {
            for (int y = 0; y < high(); y++) {
                both += zero[x][y] == 0 && one[x][y] == 1 ? 1 : 0;
            }
        }
        return both;
    }

    int claimed(int xy) {
        if (!isTold(xy)) {
            return no(-1);
        }
        return (claimMap(0)[xy / 100][xy % 100] == 0 ? 1 : 0) + (claimMap(1)[xy / 100][xy % 100] == 1 ? 2 : 0);
    }

    int meet(int one, int other) {
        if (Math.min(one, other) < 0) {
            return no(-4);
        }
        if (Math.max(one, other) > 120) {
            return no(-6);
        }
        int[] was = rules;
        int found = -9;
        for (int[] option : options()) {
            rules = Arrays.copyOfRange(option, 1, 5);
            int[][] map = map();
            if (found == -9 && cellsOf(map, 0) >= one && cellsOf(map, 1) >= other) {
                found = option[0];
            }
            rules = was;
        }
        return found;
    }

    int put(int v) {
        if (v < -9) {
            return no(-4);
        }
        if (v > 9 || row.size() == 120) {
            return no(-6);
        }
        row.add(v);
        return row.size();
    }

    int judge() {
        List<Integer> judged = row;
        row = new ArrayList<>();
        for (int k = 0; k < wide() * high(); k++) {
            int x = k % wide();
            int y = k / wide();
            boolean right = k < judged.size() && (at(x, y) != '.' || judged.get(k) == whoseIs(x, y));
            if (!right) {
                return 100 * x + y;
            }
        }
        return judged.size() > wide() * high() ? 9999 : -9;
    }

    int grow(int xy, int land) {
        if (!isTold(xy) || !isLand(land)) {
            return no(-1);
        }
        if (at(xy / 100, xy % 100) != '.') {
            return no(-3);
        }
        set(xy / 100, xy % 100, (char) ('A' + land));
        wells.removeIf(well -> well[0] == xy);
        return 1;
    }

    int drown(int xy) {
        if (!isTold(xy)) {
            return no(-1);
        }
        int was = cell(xy);
        if (was == 0) {
            return no(-3);
        }
        set(xy / 100, xy % 100, '.');
        return was;
    }

    int image() {
        keptGrid = grid.clone();
        keptRules = rules.clone();
        keptWells = new ArrayList<>(wells);
        return wide() * high();
    }

    int on() {
        if (keptGrid == null) {
            return no(-3);
        }
        grid = keptGrid.clone();
        rules = keptRules.clone();
        wells = new ArrayList<>(keptWells);
        return wide() * high();
    }

    int count(int what) {
        if (what >= 11 && what <= 16) {
            return refused[what - 10];
        }
        int sea = String.join("", grid).replaceAll("[^.]", "").length();
        int[] all = {wide(), high(), sea, wells.size(), tape.length(), row.size()};
        return what >= 0 && what < all.length ? all[what] : -9;
    }
}
