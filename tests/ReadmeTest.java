import java.io.IOException;
import java.lang.reflect.Method;
import java.nio.file.Files;
import java.nio.file.Path;
import java.util.List;
import java.util.regex.Matcher;
import java.util.regex.Pattern;

/** What README.md tells of the use of the class is so: its calls are done, and answer what stands behind them. */
public final class ReadmeTest {
    private static final Pattern CALL = Pattern.compile("^x\\.(\\w+)\\(([-\\d, ]*)\\);\\s*// (-?\\d+)\\b.*");
    private static final Pattern TEXT = Pattern.compile("^String law = \"(.*)\";$");
    private static final Pattern TEST = Pattern.compile("`(?:tests/)?(\\w+Test|Check|Look|State|Model)(?:\\.java)?`");

    private static long call(DonkeyBridge x, String name, String told) throws ReflectiveOperationException {
        String[] numbers = told.isBlank() ? new String[0] : told.split(", *");
        for (Method m : DonkeyBridge.class.getDeclaredMethods()) {
            if (m.getName().equals(name) && m.getParameterCount() == numbers.length) {
                Object[] all = new Object[numbers.length];
                for (int i = 0; i < all.length; i++) {
                    boolean isLong = m.getParameterTypes()[i] == long.class;
                    all[i] = isLong ? (Object) Long.valueOf(numbers[i]) : (Object) Integer.valueOf(numbers[i]);
                }
                return ((Number) m.invoke(x, all)).longValue();
            }
        }
        throw new NoSuchMethodException(name);
    }

    private static void followExample(Check c, List<String> lines) throws ReflectiveOperationException {
        c.about("the example in README.md");
        DonkeyBridge x = new DonkeyBridge();
        for (String line : lines) {
            Matcher text = TEXT.matcher(line);
            for (int i = 0; text.matches() && i < text.group(1).length(); i++) {
                c.due("feed", x.feed(text.group(1).charAt(i)), i + 1);
            }
            Matcher call = CALL.matcher(line);
            if (call.matches()) {
                c.due(line, call(x, call.group(1), call.group(2)), Long.parseLong(call.group(3)));
            } else if (line.startsWith("x.")) {
                c.due(line + ": its answer is told", 0, 1);
            }
        }
    }

    private static void findTests(Check c, List<String> lines) {
        c.about("the tests that README.md names are there");
        for (String line : lines) {
            Matcher m = TEST.matcher(line);
            while (m.find()) {
                c.due(m.group(1), Files.exists(Path.of("tests", m.group(1) + ".java")) ? 1 : 0, 1);
            }
        }
    }

    /** Each call of the face stands in README.md, by its name. */
    private static void findCalls(Check c, String readme) {
        c.about("README.md names each call");
        for (Method m : DonkeyBridge.class.getMethods()) {
            if (m.getDeclaringClass() == DonkeyBridge.class) {
                c.due(m.getName(), readme.contains("`" + m.getName() + "`") ? 1 : 0, 1);
            }
        }
    }

    public static void main(String[] args) throws IOException, ReflectiveOperationException {
        Check c = new Check("ReadmeTest");
        Path readme = Path.of("README.md");
        List<String> lines = Files.readAllLines(readme);
        followExample(c, lines);
        findTests(c, lines);
        findCalls(c, Files.readString(readme));
        c.end();
    }
}
