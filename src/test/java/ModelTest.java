import java.util.Random;

/** Long runs of calls, right and wrong ones, on HalfSea and on PlainSea: both must answer the same. */
public final class ModelTest {
    private static final String SIGNS = "...........ABCabcr";
    private static final String DENSE = "....ABCABCabcr";

    private final Random dice;
    private final HalfSea sea = new HalfSea();
    private final PlainSea plain = new PlainSea();
    private final int run;
    private int calls = 0;

    private ModelTest(int run) {
        this.run = run;
        this.dice = new Random(run);
    }

    public static void main(String[] args) {
        for (int run = 0; run < 400; run++) {
            new ModelTest(run).play(run % 20 == 0 ? 12 : 6, run % 20 == 0 ? 10 : 5);
        }
        Check.end();
    }

    private void play(int mostWide, int mostHigh) {
        readSea(mostWide - dice.nextInt(3), mostHigh - dice.nextInt(3));
        setRules();
        int rounds = mostWide > 6 ? 60 : 110;
        for (int k = 0; k < rounds && calls < 480; k++) {
            change(mostWide, mostHigh);
            ask(mostWide > 6);
        }
        for (int what = -1; what <= 18; what++) {
            same("count(" + what + ")", plain.count(what), sea.count(what));
        }
    }

    private void same(String call, int want, int got) {
        calls++;
        Check.due("run " + run + ", call " + calls + ": " + call + " in " + String.join("/", plain.grid)
                + " by " + java.util.Arrays.toString(plain.rules), want, got);
    }

    private void feedText(String text) {
        for (int start = 0; start < text.length(); start += 8) {
            int n = Math.min(8, text.length() - start);
            long bytes = dice.nextLong();
            for (int k = 0; k < n; k++) {
                bytes = bytes & ~(255L << 8 * k) | (long) text.charAt(start + k) << 8 * k;
            }
            same("feed", plain.feed(n, bytes), sea.feed(n, bytes));
        }
        same("read", plain.read(), sea.read());
    }

    private void readSea(int wide, int high) {
        String signs = dice.nextInt(3) == 0 ? DENSE : SIGNS;
        StringBuilder text = new StringBuilder();
        for (int y = 0; y < high; y++) {
            text.append(y == 0 ? "" : "/");
            for (int x = 0; x < wide; x++) {
                text.append(signs.charAt(dice.nextInt(signs.length())));
            }
        }
        if (dice.nextInt(4) == 0) {
            feedText(spoilt(text));
        }
        feedText(text.toString());
    }

    private String spoilt(StringBuilder text) {
        StringBuilder bad = new StringBuilder(text);
        int place = dice.nextInt(bad.length());
        switch (dice.nextInt(4)) {
            case 0:
                bad.deleteCharAt(place);
                break;
            case 1:
                bad.insert(place, '/');
                break;
            case 2:
                bad.setCharAt(place, (char) dice.nextInt(256));
                break;
            default:
                bad.insert(place, '.');
                break;
        }
        return bad.toString();
    }

    private void setRules() {
        set(0, dice.nextInt(10));
        set(1, dice.nextInt(3));
        set(2, dice.nextInt(3) == 0 ? 20 : dice.nextInt(9));
        set(3, dice.nextInt(2) == 0 ? 0 : dice.nextInt(101) - 50);
    }

    private void set(int rule, int v) {
        same("rule(" + rule + ", " + v + ")", plain.rule(rule, v), sea.rule(rule, v));
    }

    private int someCell() {
        if (dice.nextInt(12) == 0) {
            return dice.nextInt(1400) - 100;
        }
        return 100 * dice.nextInt(plain.count(0)) + dice.nextInt(plain.count(1));
    }

    private int someLand() {
        return dice.nextInt(12) == 0 ? dice.nextInt(9) - 4 : dice.nextInt(3);
    }

    private void change(int mostWide, int mostHigh) {
        int xy = someCell();
        int land = someLand();
        int v = dice.nextInt(8) == 0 ? dice.nextInt(220) - 60 : 1 + dice.nextInt(3);
        switch (dice.nextInt(26)) {
            case 0:
                readSea(1 + dice.nextInt(mostWide), 1 + dice.nextInt(mostHigh));
                break;
            case 1:
                same("grow", plain.grow(xy, land), sea.grow(xy, land));
                break;
            case 2:
                same("drown", plain.drown(xy), sea.drown(xy));
                break;
            case 3:
                same("image", plain.image(), sea.image());
                break;
            case 4:
                same("on", plain.on(), sea.on());
                break;
            case 5:
                setRules();
                break;
            case 6:
                set(dice.nextInt(6) - 1, dice.nextInt(140) - 70);
                break;
            case 7:
                putRow();
                break;
            default:
                if (dice.nextInt(4) == 0) {
                    same("well(" + xy + ", " + v + ")", plain.well(xy, v), sea.well(xy, v));
                }
                break;
        }
    }

    /** A paper that is right but for a cell or its length, now and then. */
    private void putRow() {
        int wide = plain.count(0);
        int size = wide * plain.count(1);
        int wrong = dice.nextInt(3) == 0 ? dice.nextInt(size) : -1;
        int length = dice.nextInt(3) == 0 ? Math.max(0, size + dice.nextInt(5) - 2) : size;
        for (int k = 0; k < length && calls < 400; k++) {
            int right = k < size ? plain.whose(100 * (k % wide) + k / wide) : 0;
            int v = k == wrong ? dice.nextInt(22) - 11 : right;
            same("put(" + v + ")", plain.put(v), sea.put(v));
        }
        same("judge()", plain.judge(), sea.judge());
    }

    private void ask(boolean big) {
        int xy = someCell();
        int land = someLand();
        int which = dice.nextInt(big && dice.nextInt(8) != 0 ? 14 : 19);
        switch (which) {
            case 0:
                same("cell(" + xy + ")", plain.cell(xy), sea.cell(xy));
                break;
            case 1:
                same("inner(" + xy + ")", plain.inner(xy), sea.inner(xy));
                break;
            case 2:
                same("near(" + xy + ", " + land + ")", plain.near(xy, land), sea.near(xy, land));
                break;
            case 3:
                same("from(" + xy + ", " + land + ")", plain.from(xy, land), sea.from(xy, land));
                break;
            case 4:
                same("whose(" + xy + ")", plain.whose(xy), sea.whose(xy));
                break;
            case 5:
                same("third()", plain.third(), sea.third());
                break;
            case 6:
                int owner = dice.nextInt(7) - 4;
                same("area(" + owner + ")", plain.area(owner), sea.area(owner));
                break;
            case 7:
                same("shore(" + land + ")", plain.shore(land), sea.shore(land));
                break;
            case 8:
                same("fair()", plain.fair(), sea.fair());
                break;
            case 9:
                same("pieces()", plain.pieces(), sea.pieces());
                break;
            case 10:
                same("turnings()", plain.turnings(), sea.turnings());
                break;
            case 11:
                same("worth(" + land + ")", plain.worth(land), sea.worth(land));
                break;
            case 12:
                int what = dice.nextInt(20) - 1;
                same("count(" + what + ")", plain.count(what), sea.count(what));
                break;
            case 13:
                same("moves(" + xy + ")", plain.moves(xy), sea.moves(xy));
                break;
            default:
                askDear(which, xy, land);
                break;
        }
    }

    private void askDear(int which, int xy, int land) {
        int one = dice.nextInt(12) == 0 ? dice.nextInt(200) - 40 : dice.nextInt(1 + plain.count(2) / 2);
        int other = dice.nextInt(12) == 0 ? dice.nextInt(200) - 40 : dice.nextInt(1 + plain.count(2) / 3);
        switch (which) {
            case 14:
                int v = dice.nextInt(12) == 0 ? dice.nextInt(2) * 1000001 - 1 : dice.nextInt(12);
                same("bent(" + v + ")", plain.bent(v), sea.bent(v));
                break;
            case 15:
                same("most()", plain.most(), sea.most());
                break;
            case 16:
                same("chosen(" + land + ")", plain.chosen(land), sea.chosen(land));
                break;
            case 17:
                same("claims()", plain.claims(), sea.claims());
                same("claimed(" + xy + ")", plain.claimed(xy), sea.claimed(xy));
                break;
            default:
                same("meet(" + one + ", " + other + ")", plain.meet(one, other), sea.meet(one, other));
                break;
        }
    }
}
