import java.io.IOException;
import java.lang.reflect.Method;
import java.lang.reflect.Modifier;
import java.nio.file.Files;
import java.nio.file.Path;
import java.util.ArrayList;
import java.util.List;
import java.util.Set;
import java.util.TreeSet;
import java.util.regex.Matcher;
import java.util.regex.Pattern;

/** What README.md shows: calls of the whole face with their answers, and texts that are good. */
public final class ReadmeTest {
    private static final Pattern TEXT = Pattern.compile("writeText\\(bench, \"(.*)\"\\);.*");
    private static final Pattern CALL =
            Pattern.compile("bench\\.(\\w+)\\((.*?)\\);\\s*(?:// (-?\\d+|NONE)?\\b.*)?");
    private static final Pattern CODE = Pattern.compile("`(.*?)`");

    private static final CaptureBench BENCH = new CaptureBench();
    private static final Set<String> CALLED = new TreeSet<>();

    public static void main(String[] args) throws IOException, ReflectiveOperationException {
        List<String> lines = Files.readAllLines(Path.of("README.md"));
        shownCalls(lines);
        wholeFaceIsShown();
        shownTexts(lines);
        Checks.end();
    }

    private static void shownCalls(List<String> lines) throws ReflectiveOperationException {
        for (String line : lines) {
            Matcher text = TEXT.matcher(line);
            Matcher call = CALL.matcher(line);
            if (text.matches()) {
                writeText(BENCH, text.group(1));
            } else if (call.matches()) {
                make(line, call);
            }
        }
    }

    private static void wholeFaceIsShown() {
        for (Method method : CaptureBench.class.getDeclaredMethods()) {
            if (Modifier.isPublic(method.getModifiers())) {
                Checks.due("README.md shows " + method.getName(),
                        CALLED.contains(method.getName()) ? 1 : 0, 1);
            }
        }
    }

    private static void shownTexts(List<String> lines) {
        for (String text : textsBelow("### Layer texts", lines)) {
            // Most of them ask for a field a that stands before them.
            Checks.dueLayerPlace(text.startsWith("a") ? text : "a8" + text, Checks.NONE);
        }
        for (String text : textsBelow("### Filter texts", lines)) {
            Checks.dueFilterPlace(text, Checks.NONE);
        }
    }

    /** What stands as code in the first column of the table below a heading. */
    private static List<String> textsBelow(String heading, List<String> lines) {
        List<String> texts = new ArrayList<>();
        int from = lines.indexOf(heading) + 1;
        for (int k = from; k < lines.size() && !lines.get(k).startsWith("#"); k++) {
            Matcher code = CODE.matcher(lines.get(k).split(" \\| ")[0]);
            while (lines.get(k).startsWith("| `") && code.find()) {
                texts.add(code.group(1).replace("\\|", "|"));
            }
        }
        Checks.due("there are texts below " + heading, texts.isEmpty() ? 0 : 1, 1);
        return texts;
    }

    private static void make(String line, Matcher call) throws ReflectiveOperationException {
        Method method = methodNamed(call.group(1));
        CALLED.add(method.getName());
        Object got = method.invoke(BENCH, arguments(method, call.group(2)));
        String want = call.group(3);
        boolean answers = method.getReturnType() != void.class;
        Checks.due("an answer is told: " + line, want != null ? 1 : 0, answers ? 1 : 0);
        if (answers && want != null) {
            Checks.due(line, ((Number) got).longValue(),
                    want.equals("NONE") ? CaptureBench.NONE : Long.parseLong(want));
        }
    }

    private static Method methodNamed(String name) throws NoSuchMethodException {
        for (Method method : CaptureBench.class.getDeclaredMethods()) {
            if (method.getName().equals(name)) {
                return method;
            }
        }
        throw new NoSuchMethodException(name);
    }

    private static Object[] arguments(Method method, String written) {
        String[] parts = written.isEmpty() ? new String[0] : written.split(", ");
        Object[] arguments = new Object[parts.length];
        for (int k = 0; k < parts.length; k++) {
            long number = Long.decode(parts[k].replace("L", ""));
            if (method.getParameterTypes()[k] == int.class) {
                arguments[k] = (int) number;
            } else {
                arguments[k] = number;
            }
        }
        return arguments;
    }

    /** As README.md has it. */
    static void writeText(CaptureBench bench, String text) {
        for (int from = 0; from < text.length(); from += 8) {
            int n = Math.min(8, text.length() - from);
            long bytes = 0;
            for (int k = 0; k < n; k++) {
                bytes |= (long) text.charAt(from + k) << (8 * k);
            }
            bench.write(n, bytes);
        }
    }
}
