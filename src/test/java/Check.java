import java.lang.reflect.InvocationTargetException;
import java.lang.reflect.Method;
import java.lang.reflect.Modifier;
import java.util.ArrayList;
import java.util.Comparator;
import java.util.List;

/** What every test of the project uses: calls with the answers that are due, and texts fed as bytes. */
final class Check {
    private static int wrong = 0;
    private static int asked = 0;
    /** The test that runs now, told with each wrong answer. */
    private static String running = "";

    /** A call that does not end must fail its test, not keep .ci/run waiting. */
    private static final int MOST_SECONDS = 300;

    static {
        Thread watch = new Thread(Check::failIfItDoesNotEnd);
        watch.setDaemon(true);
        watch.start();
    }

    private Check() {
    }

    private static void failIfItDoesNotEnd() {
        try {
            Thread.sleep(1000L * MOST_SECONDS);
        } catch (InterruptedException stopped) {
            return;
        }
        System.out.println(running + "has not ended after " + MOST_SECONDS + " seconds");
        Runtime.getRuntime().halt(1);
    }

    static void due(String call, long want, long got) {
        asked++;
        if (got != want) {
            wrong++;
            System.out.println(running + call + " answered " + got + ", due is " + want);
        }
    }

    static void holds(String what, boolean is) {
        due(what, 1, is ? 1 : 0);
    }

    /** Runs every static method of a test class that is not private and takes nothing, each for itself. */
    static void runEach(Class<?> test) throws IllegalAccessException {
        int passed = 0;
        int failed = 0;
        for (Method one : testsOf(test)) {
            int wrongAhead = wrong;
            int askedAhead = asked;
            running = test.getSimpleName() + "." + one.getName() + ": ";
            try {
                one.invoke(null);
            } catch (InvocationTargetException thrown) {
                holds("threw " + thrown.getCause() + ", so that it ended", false);
            }
            holds("asked something", asked > askedAhead);
            if (wrong == wrongAhead) {
                passed++;
            } else {
                failed++;
            }
        }
        running = "";
        holds(test.getSimpleName() + " has tests", passed + failed > 0);
        System.out.println(test.getSimpleName() + ": " + passed + " passed, " + failed + " failed");
        if (wrong != 0) {
            System.exit(1);
        }
    }

    private static List<Method> testsOf(Class<?> test) {
        List<Method> tests = new ArrayList<>();
        for (Method method : test.getDeclaredMethods()) {
            boolean hidden = Modifier.isPrivate(method.getModifiers()) || method.isSynthetic();
            if (!hidden && Modifier.isStatic(method.getModifiers()) && method.getParameterCount() == 0) {
                tests.add(method);
            }
        }
        tests.sort(Comparator.comparing(Method::getName));
        return tests;
    }

    /** Feeds a text in eights; answers what the last feed did. */
    static int feed(HalfSea sea, String text) {
        int told = 0;
        for (int start = 0; start < text.length(); start += 8) {
            int n = Math.min(8, text.length() - start);
            long bytes = 0;
            for (int k = 0; k < n; k++) {
                bytes |= (long) text.charAt(start + k) << (8 * k);
            }
            told = sea.feed(n, bytes);
        }
        return told;
    }

    static int readInto(HalfSea sea, String text) {
        feed(sea, text);
        return sea.read();
    }

    static HalfSea sea(String text) {
        HalfSea sea = new HalfSea();
        int lines = text.split("/", -1).length;
        due("read of " + text, text.length() - lines + 1, readInto(sea, text));
        return sea;
    }

    static HalfSea sea(String text, int mouth, int weight, int reach, int bend) {
        HalfSea sea = sea(text);
        setRules(sea, mouth, weight, reach, bend);
        return sea;
    }

    static void setRules(HalfSea sea, int... rules) {
        for (int rule = 0; rule < rules.length; rule++) {
            sea.rule(rule, rules[rule]);
        }
    }

    /** A text of some lines that are all the same. */
    static String lines(String line, int high) {
        return ("/" + line).repeat(high).substring(1);
    }

    /** The greatest sea, of one sign but for its first cell. */
    static String greatest(char first, char others) {
        String line = String.valueOf(others).repeat(12);
        return first + line.substring(1) + ("/" + line).repeat(9);
    }

    /** The greatest sea, all rocks but for a small text of which x, y is the first cell. */
    static String amongRocks(String small, int x, int y) {
        String[] lines = small.split("/");
        StringBuilder text = new StringBuilder();
        for (int line = 0; line < 10; line++) {
            String own = line >= y && line < y + lines.length ? lines[line - y] : "";
            text.append(line == 0 ? "" : "/").append("r".repeat(x)).append(own);
            text.append("r".repeat(12 - x - own.length()));
        }
        return text.toString();
    }

    static int refused(HalfSea sea) {
        int all = 0;
        for (int kind = 11; kind <= 16; kind++) {
            all += sea.count(kind);
        }
        return all;
    }

    static int putAll(HalfSea sea, int... bytes) {
        int told = 0;
        for (int v : bytes) {
            told = sea.put(v);
        }
        return told;
    }

    static void end() {
        System.out.println(asked + " answers looked at, " + wrong + " wrong");
        if (wrong != 0) {
            System.exit(1);
        }
    }
}
