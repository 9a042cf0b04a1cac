import java.io.IOException;
import java.lang.reflect.Field;
import java.lang.reflect.Method;
import java.lang.reflect.Modifier;
import java.nio.file.Files;
import java.nio.file.Path;
import java.util.HashSet;
import java.util.Set;
import java.util.regex.Matcher;
import java.util.regex.Pattern;

/** Looks at the source for what ../shared/LANGUAGE.md rules out, as far as a text tells it. */
public final class LanguageTest {
    private static final Path SOURCE = Path.of("src/main/java/DonkeyBridge.java");
    private static final int LONGEST_METHOD = 60, MOST_CLASSES = 12, MOST_PARAMETERS = 7, MOST_FIELDS = 20;
    private static final String[] RULED_OUT = {
        "\\bthrow\\b", "\\bthrows\\b", "\\btry\\b", "\\bcatch\\b", "\\bfinally\\b", "\\bsynchronized\\b",
        "\\bassert\\b", "->", "::", "\\bpackage\\b", "\\bprotected\\b", "\\bvolatile\\b", "\\bnative\\b",
        "\\bwhile \\(true\\)", "for \\(;", "\\bstatic \\{", "\\bSystem\\.(?!arraycopy\\b)", "\\bMath\\.\\w+Exact\\b",
        "\\bMath\\.(?!max\\b|min\\b|abs\\b)", "\\bArrays\\.(?!fill\\b|copyOf\\b|copyOfRange\\b)", "\\bThread\\b",
        "\\bObject\\b", "\\bhashCode\\b", "\\btoString\\b", "\\binstanceof\\b", "\\bRandom\\b", "@\\w+",
        "\" *\\+", "\\+ *\"", "\\bimport (?!java\\.util\\.Arrays;)"
    };

    private static int times(String text, String pattern) {
        Matcher m = Pattern.compile(pattern).matcher(text);
        int times = 0;
        while (m.find()) {
            times++;
        }
        return times;
    }

    private static int longestMethod(String code) {
        Matcher m = Pattern.compile("(?m)^(    |        )(?:[\\w\\[\\]<>]+ )*\\w+\\([^;{]*\\) \\{\\n(?s:.*?)^\\1\\}").matcher(code);
        int longest = 0;
        while (m.find()) {
            longest = Math.max(longest, (int) m.group().lines().count());
        }
        return longest;
    }

    private static int mostParameters(String code) {
        Matcher m = Pattern.compile("(?m)^ +(?:\\w+ )*[\\w\\[\\]]+ \\w+\\(([^;{)]*)\\) \\{").matcher(code);
        int most = 0;
        while (m.find()) {
            most = Math.max(most, m.group(1).isBlank() ? 0 : m.group(1).split(",").length);
        }
        return most;
    }

    /** Static fields that are no constants: a run must not tell another anything. */
    private static int openStatics(String code) {
        Matcher m = Pattern.compile("(?m)^ +.*\\bstatic\\b[^({]*[=;].*$").matcher(code);
        int open = 0;
        while (m.find()) {
            open += m.group().contains(" final ") ? 0 : 1;
        }
        return open;
    }

    /** What the compiled classes tell: rules 1, 2, 5, 6 and 11. */
    private static void lookAtClasses(Check c) {
        Set<String> open = new HashSet<>();
        for (Method m : DonkeyBridge.class.getDeclaredMethods()) {
            if (Modifier.isPublic(m.getModifiers())) {
                open.add(m.getName());
            }
        }
        lookAtClass(c, DonkeyBridge.class, open);
        for (Class<?> k : DonkeyBridge.class.getDeclaredClasses()) {
            c.due("a class inside is static: " + k, Modifier.isStatic(k.getModifiers()) ? 1 : 0, 1);
            c.due("a class inside has none inside: " + k, k.getDeclaredClasses().length, 0);
            lookAtClass(c, k, open);
        }
    }

    private static void lookAtClass(Check c, Class<?> k, Set<String> open) {
        int fields = 0;
        for (Field f : k.getDeclaredFields()) {
            boolean isStatic = Modifier.isStatic(f.getModifiers());
            fields += isStatic ? 0 : 1;
            c.due("a static field is final: " + f, isStatic && !Modifier.isFinal(f.getModifiers()) ? 1 : 0, 0);
        }
        c.due("fields above the most: " + k, Math.max(0, fields - MOST_FIELDS), 0);
        for (Method m : k.getDeclaredMethods()) {
            boolean isOpen = Modifier.isPublic(m.getModifiers());
            c.due("it bears the name of a public one: " + m, !isOpen && open.contains(m.getName()) ? 1 : 0, 0);
            c.due("it is no equals, hashCode, toString: " + m, m.getName().matches("equals|hashCode|toString") ? 1 : 0, 0);
        }
    }

    public static void main(String[] args) throws IOException {
        Check c = new Check("LanguageTest");
        String source = Files.readString(SOURCE);
        String code = source.replaceAll("(?s)/\\*.*?\\*/", "").replaceAll("//[^\n]*", "");
        for (String pattern : RULED_OUT) {
            c.due(pattern, times(code, pattern), 0);
        }
        c.due("signs beyond 127", times(source, "[^\\x00-\\x7F]"), 0);
        c.due("classes above the most", Math.max(0, times(code, "\\bclass \\w+") - MOST_CLASSES), 0);
        c.due("classes inside that are not private static", times(code, "(?m)^ +(?! )(?!private static final class).*\\bclass \\w+"), 0);
        c.due("lines above the longest method", Math.max(0, longestMethod(code) - LONGEST_METHOD), 0);
        c.due("it finds methods", longestMethod(code) > 20 ? 1 : 0, 1);
        c.due("parameters above the most", Math.max(0, mostParameters(code) - MOST_PARAMETERS), 0);
        c.due("it finds parameters", mostParameters(code) >= 5 ? 1 : 0, 1);
        c.due("open static fields", openStatics(code), 0);
        lookAtClasses(c);
        c.end();
    }
}
