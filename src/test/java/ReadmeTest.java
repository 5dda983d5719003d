import java.lang.reflect.Method;
import java.lang.reflect.Modifier;
import java.nio.file.Files;
import java.nio.file.Path;
import java.util.regex.Matcher;
import java.util.regex.Pattern;

/** What README.md says of the use of the class is so. */
public final class ReadmeTest {
    private static final Pattern CALL = Pattern.compile("(?m)^sea\\.(\\w+)\\(([^)]*)\\); +// (-?\\d+): ");

    public static void main(String[] args) throws Exception {
        String page = Files.readString(Path.of("README.md"));
        useAnswersAsTold(page);
        namesEveryCall(page);
        Check.holds("README.md says how the tests are run", page.contains(".ci/run"));
        Check.end();
    }

    private static void useAnswersAsTold(String page) throws Exception {
        HalfSea sea = new HalfSea();
        Matcher line = CALL.matcher(page);
        int calls = 0;
        while (line.find()) {
            calls++;
            String call = "call " + calls + " of README.md, " + line.group(1) + "(" + line.group(2) + ")";
            Check.due(call, Integer.parseInt(line.group(3)), answer(sea, line.group(1), line.group(2)));
        }
        // a line in another form than the pattern's would not be asked
        Check.due("calls asked", page.split("\nsea\\.", -1).length - 1, calls);
        Check.holds("README.md has calls", calls > 0);
    }

    private static int answer(HalfSea sea, String name, String arguments) throws Exception {
        String[] told = arguments.isEmpty() ? new String[0] : arguments.split(", *");
        Method method = methodOf(name);
        Object[] given = new Object[told.length];
        for (int p = 0; p < told.length; p++) {
            long value = Long.decode(told[p].replaceAll("L$", ""));
            boolean isLong = method.getParameterTypes()[p] == long.class;
            given[p] = isLong ? (Object) value : (Object) (int) value;
        }
        return (Integer) method.invoke(sea, given);
    }

    private static Method methodOf(String name) {
        for (Method method : HalfSea.class.getDeclaredMethods()) {
            if (Modifier.isPublic(method.getModifiers()) && method.getName().equals(name)) {
                return method;
            }
        }
        throw new IllegalStateException("README.md uses " + name + ", which is not of the face");
    }

    private static void namesEveryCall(String page) {
        for (Method method : HalfSea.class.getDeclaredMethods()) {
            if (Modifier.isPublic(method.getModifiers())) {
                Check.holds("README.md names " + method.getName(), page.contains("`" + method.getName() + "("));
            }
        }
    }
}
