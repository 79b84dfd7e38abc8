import java.io.IOException;
import java.lang.reflect.Method;
import java.nio.file.Files;
import java.nio.file.Path;
import java.util.Arrays;
import java.util.List;
import java.util.Set;
import java.util.TreeSet;
import java.util.regex.Matcher;
import java.util.regex.Pattern;

/** The calls and the faults that README.md shows give the answers that it shows. */
public final class ReadmeTests {
    private static final Pattern CALL = Pattern.compile("x\\.(\\w+)\\(([^)]*)\\); +// (-?\\d+|true|false): .*");
    private static final Pattern FAULT = Pattern.compile("\\| ([1-6]) \\| .* \\| (?:`([^`]+)`)? ?\\| (\\d+) \\|");
    // The one text that README.md tells in words.
    private static final String ONES = "1" + "+1".repeat(50);

    private static final Checks checks = new Checks();

    public static void main(String[] args) throws IOException, ReflectiveOperationException {
        List<String> lines = Files.readAllLines(Path.of("README.md"));
        calls(lines);
        faults(lines);
        checks.end();
    }

    private static void calls(List<String> lines) throws ReflectiveOperationException {
        RangeReckoner x = new RangeReckoner();
        Set<String> shown = new TreeSet<>();
        for (String line : lines) {
            if (!line.startsWith("x.")) continue;
            Matcher call = CALL.matcher(line);
            checks.due("README.md tells an answer in: " + line, call.matches(), true);
            if (!call.matches()) continue;
            shown.add(call.group(1));
            checks.due(line + " (answers as told)", answer(x, call.group(1), call.group(2)).equals(call.group(3)), true);
        }
        Set<String> face = new TreeSet<>(Arrays.asList("variable", "give", "feed", "take", "part", "value", "width", "count"));
        checks.due("README.md shows each method: " + shown, shown.equals(face), true);
    }

    private static String answer(RangeReckoner x, String name, String told) throws ReflectiveOperationException {
        String[] words = told.isEmpty() ? new String[0] : told.split(", ");
        Object[] given = new Object[words.length];
        Class<?>[] types = new Class<?>[words.length];
        for (int k = 0; k < words.length; k++) {
            given[k] = Integer.decode(words[k]);
            types[k] = int.class;
        }
        Method method = RangeReckoner.class.getMethod(name, types);
        return method.invoke(x, given).toString();
    }

    private static void faults(List<String> lines) {
        Set<Integer> shown = new TreeSet<>();
        for (String line : lines) {
            Matcher fault = FAULT.matcher(line);
            if (!fault.matches()) continue;
            int kind = Integer.parseInt(fault.group(1));
            int told = Integer.parseInt(fault.group(3));
            String text = fault.group(2) == null ? ONES : fault.group(2);
            RangeReckoner x = new RangeReckoner();
            x.variable(0, 100);
            x.variable(-20, 20);
            shown.add(kind);
            checks.due("the kind in " + line, told & 7, kind);
            checks.due(line, Checks.take(x, text), told);
        }
        checks.due("README.md shows each fault: " + shown, shown.size(), 6);
    }
}
