/** What every test of the project uses: calls with the answers that are due, and texts fed as bytes. */
final class Check {
    private static int wrong = 0;
    private static int asked = 0;

    private Check() {
    }

    static void due(String call, long want, long got) {
        asked++;
        if (got != want) {
            wrong++;
            System.out.println(call + " answered " + got + ", due is " + want);
        }
    }

    static void holds(String what, boolean is) {
        due(what, 1, is ? 1 : 0);
    }

    /** Feeds a text in eights; answers what the last feed did. */
    static int feed(HalfSea sea, String text) {
        int told = 0;
        for (int start = 0; start < text.length(); start += 8) {
            int n = Math.min(8, text.length() - start);
            long bytes = 0;
            for (int k = 0; k < n; k++) {
                bytes |= (long) text.charAt(start + k) << (8 * k);
            }
            told = sea.feed(n, bytes);
        }
        return told;
    }

    static int readInto(HalfSea sea, String text) {
        feed(sea, text);
        return sea.read();
    }

    static HalfSea sea(String text) {
        HalfSea sea = new HalfSea();
        int lines = text.split("/", -1).length;
        due("read of " + text, text.length() - lines + 1, readInto(sea, text));
        return sea;
    }

    static int refused(HalfSea sea) {
        int all = 0;
        for (int kind = 11; kind <= 16; kind++) {
            all += sea.count(kind);
        }
        return all;
    }

    static int putAll(HalfSea sea, int... bytes) {
        int told = 0;
        for (int v : bytes) {
            told = sea.put(v);
        }
        return told;
    }

    static void end() {
        System.out.println(asked + " answers looked at, " + wrong + " wrong");
        if (wrong != 0) {
            System.exit(1);
        }
    }
}
