import java.io.File;
import java.lang.reflect.Constructor;
import java.lang.reflect.Field;
import java.lang.reflect.Method;
import java.lang.reflect.Modifier;
import java.nio.file.Files;
import java.nio.file.Path;
import java.util.Set;
import java.util.TreeSet;
import java.util.regex.Matcher;
import java.util.regex.Pattern;

/** The public face of the document, and those rules of LANGUAGE.md that can be seen from outside. */
public final class FaceTest {

    private static final String[] FACE = {
        "feed(int,long)", "read()", "cell(int)", "rule(int,int)", "inner(int)", "near(int,int)",
        "from(int,int)", "whose(int)", "third()", "area(int)", "shore(int)", "fair()", "bent(int)",
        "pieces()", "turnings()", "moves(int)", "most()", "well(int,int)", "worth(int)", "chosen(int)",
        "claims()", "claimed(int)", "meet(int,int)", "put(int)", "judge()", "grow(int,int)",
        "drown(int)", "image()", "on()", "count(int)"
    };

    private static final String[] FORBIDDEN = {
        "\\bthrow\\b", "\\btry\\b", "\\bcatch\\b", "\\bsynchronized\\b", "\\bassert\\b", "->", "::",
        "Exact\\b", "\\bSystem\\.(?!arraycopy)", "\\bRandom\\b", "\\bThread\\b", "\\bpackage\\b", "\\bvar\\b",
        "\\.equals\\(", "\\bObject\\b", "\\bException\\b"
    };

    public static void main(String[] args) throws Exception {
        face();
        names(HalfSea.class);
        for (Class<?> inside : HalfSea.class.getDeclaredClasses()) {
            Check.holds(inside + " is static", Modifier.isStatic(inside.getModifiers()));
            names(inside);
        }
        source();
        promises();
        Check.end();
    }

    private static void face() {
        Check.holds("public and final", Modifier.isPublic(HalfSea.class.getModifiers())
                && Modifier.isFinal(HalfSea.class.getModifiers()));
        Set<String> due = new TreeSet<>(Set.of(FACE));
        Set<String> open = new TreeSet<>();
        for (Method method : HalfSea.class.getDeclaredMethods()) {
            if (!Modifier.isPrivate(method.getModifiers())) {
                open.add(signature(method));
                Check.holds(method + " is public and of the object",
                        Modifier.isPublic(method.getModifiers()) && !Modifier.isStatic(method.getModifiers()));
                Check.holds(method + " answers an int", method.getReturnType() == int.class);
            }
        }
        Check.holds("the face is " + open, due.equals(open));
        for (Field field : HalfSea.class.getDeclaredFields()) {
            Check.holds(field + " is private", Modifier.isPrivate(field.getModifiers()));
            Check.holds(field + " is final if it is static", !Modifier.isStatic(field.getModifiers())
                    || Modifier.isFinal(field.getModifiers()));
        }
        Constructor<?>[] constructors = HalfSea.class.getDeclaredConstructors();
        Check.due("constructors", 1, constructors.length);
        Check.due("its parameters", 0, constructors[0].getParameterCount());
        Check.holds("it is public", Modifier.isPublic(constructors[0].getModifiers()));
    }

    private static String signature(Method method) {
        StringBuilder text = new StringBuilder(method.getName()).append('(');
        for (Class<?> type : method.getParameterTypes()) {
            text.append(text.charAt(text.length() - 1) == '(' ? "" : ",").append(type.getSimpleName());
        }
        return text.append(')').toString();
    }

    /** No method of another class inside, and no private one, bears a name of the face. */
    private static void names(Class<?> of) {
        Set<String> taken = new TreeSet<>();
        for (String method : FACE) {
            taken.add(method.substring(0, method.indexOf('(')));
        }
        for (Method method : of.getDeclaredMethods()) {
            Check.holds(method + " has at most seven parameters", method.getParameterCount() <= 7);
            Check.holds(method + " has a name of its own",
                    Modifier.isPublic(method.getModifiers()) || !taken.contains(method.getName()));
        }
    }

    /** Each promise of the document has a test file that bears its number. */
    private static void promises() throws Exception {
        String tests = String.join(" ", new File("src/test/java").list());
        Matcher heading = Pattern.compile("(?m)^## Promise (\\d+):").matcher(
                Files.readString(Path.of("../shared/DOC.md")));
        int found = 0;
        while (heading.find()) {
            found++;
            String name = String.format("Promise%02d", Integer.parseInt(heading.group(1)));
            Check.holds(name + " has a test", Pattern.compile(name + "\\w+Test\\.java").matcher(tests).find());
        }
        Check.due("promises", 31, found);
    }

    private static void source() throws Exception {
        String text = Files.readString(Path.of("src/main/java/HalfSea.java"));
        String code = text.replaceAll("(?s)/\\*.*?\\*/", "").replaceAll("//[^\n]*", "");
        for (String pattern : FORBIDDEN) {
            Matcher found = Pattern.compile(pattern).matcher(code);
            Check.holds("the code has no " + pattern, !found.find());
        }
        for (String line : code.split("\n")) {
            Check.holds(line, !line.startsWith("import ")
                    || line.matches("import java\\.util\\.(Arrays|ArrayList|List|Iterator);"));
        }
    }
}
