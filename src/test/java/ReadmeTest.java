import java.io.IOException;
import java.lang.reflect.InvocationTargetException;
import java.lang.reflect.Method;
import java.nio.file.Files;
import java.nio.file.Path;
import java.util.ArrayList;
import java.util.Arrays;
import java.util.HashMap;
import java.util.List;
import java.util.Map;
import java.util.Set;
import java.util.TreeSet;
import java.util.regex.Matcher;
import java.util.regex.Pattern;

/** README.md against the class: every answer that its example names, and what its tables tell of the calls. */
public final class ReadmeTest {
    private static final Pattern MADE = Pattern.compile("NameAuction registry = new NameAuction\\(\\);");
    private static final Pattern EXAMPLE = Pattern.compile("registry\\.(\\w+)\\((.*?)\\); +// ('.'|throws \\w+|[-\\w]+)(,.*)?");
    private static final Pattern CALL_ROW = Pattern.compile("\\| `(\\w+)\\((.*?)\\)` \\| (.+?) \\| (.*?) ?\\|");
    private static final Pattern RANGE_ROW =
        Pattern.compile("\\| `(\\w+)`(?:, `(\\w+)`)?(?: of `(\\w+)`)? \\| (\\d+) to (\\d+)\\b.* \\| `(\\w+)` \\|");

    private static final Checks check = new Checks();

    /** What an argument takes, and the exception for what lies outside. */
    private static final class Range {
        final int least;
        final int most;
        final String otherwise;

        Range(int least, int most, String otherwise) {
            this.least = least;
            this.most = most;
            this.otherwise = otherwise;
        }
    }

    public static void main(String[] args) throws IOException {
        List<String> lines = Files.readAllLines(Path.of("README.md"));
        exampleAnswersAsItSays(codeOf(lines));
        Map<String, Range> ranges = rangesOf(lines);
        tablesTellTheFace(lines);
        rangesEndWhereTheySay(lines, ranges);
        check.end();
    }

    /** The lines of the blocks that are marked as Java. */
    private static List<String> codeOf(List<String> lines) {
        List<String> code = new ArrayList<>();
        boolean isInside = false;
        for (String line : lines) {
            if (line.startsWith("```")) {
                isInside = line.equals("```java");
            } else if (isInside) {
                code.add(line);
            }
        }
        return code;
    }

    private static void exampleAnswersAsItSays(List<String> code) {
        NameAuction registry = null;
        Set<String> called = new TreeSet<>();
        for (String line : code) {
            check.about("README: " + line);
            Matcher example = EXAMPLE.matcher(line);
            if (MADE.matcher(line).matches()) {
                registry = new NameAuction();
            } else if (registry != null && example.matches()) {
                called.add(example.group(1));
                check.isText(example.group(3), answer(registry, example.group(1), partsOf(example.group(2))));
            } else {
                check.isTrue(false, "the line is a call with its answer");
            }
        }
        check.about("README: the example");
        check.isText(namesOfTheFace().toString(), called.toString());
    }

    private static void tablesTellTheFace(List<String> lines) {
        Set<String> told = new TreeSet<>();
        for (Matcher row : rowsOf(lines, CALL_ROW)) {
            String name = row.group(1);
            check.about("README: the row of " + name);
            check.isTrue(told.add(name), "there is one row");
            Method method = methodOf(name);
            check.isTrue(method != null, "there is such a call");
            if (method != null) {
                check.is(method.getParameterCount(), partsOf(row.group(2)).length);
                boolean mayBeImpossible = Arrays.asList(method.getExceptionTypes()).contains(IllegalStateException.class);
                check.is(mayBeImpossible, !row.group(4).isEmpty());
            }
        }
        check.about("README: the table of the calls");
        check.isText(namesOfTheFace().toString(), told.toString());
    }

    /** Both ends of each range are taken, and what lies beyond them is not. */
    private static void rangesEndWhereTheySay(List<String> lines, Map<String, Range> ranges) {
        Set<String> used = new TreeSet<>();
        for (Matcher row : rowsOf(lines, CALL_ROW)) {
            String name = row.group(1);
            String[] arguments = partsOf(row.group(2));
            for (int i = 0; i < arguments.length; i++) {
                String key = keyOf(ranges, name, arguments[i]);
                if (key == null) {
                    check.about("README: " + arguments[i] + " of " + name);
                    check.isTrue(arguments[i].equals("place") || arguments[i].equals("isForChallenger"), "it has a range");
                    continue;
                }
                used.add(key);
                endsAre(ranges, name, arguments, i);
            }
        }
        check.about("README: the table of the arguments");
        check.isText(new TreeSet<>(ranges.keySet()).toString(), used.toString());
    }

    private static void endsAre(Map<String, Range> ranges, String name, String[] arguments, int at) {
        Range range = ranges.get(keyOf(ranges, name, arguments[at]));
        for (int value : new int[] {range.least - 1, range.least, range.most, range.most + 1}) {
            String[] values = new String[arguments.length];
            for (int i = 0; i < arguments.length; i++) {
                String key = keyOf(ranges, name, arguments[i]);
                values[i] = key != null ? "" + ranges.get(key).least : arguments[i].equals("place") ? "0" : "true";
            }
            values[at] = "" + value;
            check.about("README: " + name + "(" + String.join(", ", values) + ")");
            String refusal = "throws " + range.otherwise;
            boolean isInside = value >= range.least && value <= range.most;
            check.is(!isInside, answer(new NameAuction(), name, values).equals(refusal));
        }
    }

    private static Map<String, Range> rangesOf(List<String> lines) {
        Map<String, Range> ranges = new HashMap<>();
        for (Matcher row : rowsOf(lines, RANGE_ROW)) {
            Range range = new Range(Integer.parseInt(row.group(4)), Integer.parseInt(row.group(5)), row.group(6));
            ranges.put(row.group(3) == null ? row.group(1) : row.group(1) + " of " + row.group(3), range);
            if (row.group(2) != null) {
                ranges.put(row.group(2), range);
            }
        }
        return ranges;
    }

    private static String keyOf(Map<String, Range> ranges, String call, String argument) {
        String own = argument + " of " + call;
        return ranges.containsKey(own) ? own : ranges.containsKey(argument) ? argument : null;
    }

    private static List<Matcher> rowsOf(List<String> lines, Pattern pattern) {
        List<Matcher> rows = new ArrayList<>();
        for (String line : lines) {
            Matcher row = pattern.matcher(line);
            if (row.matches()) {
                rows.add(row);
            }
        }
        return rows;
    }

    private static String[] partsOf(String list) {
        return list.isEmpty() ? new String[0] : list.split(", ");
    }

    private static Set<String> namesOfTheFace() {
        Set<String> names = new TreeSet<>();
        for (Method method : NameAuction.class.getMethods()) {
            if (method.getDeclaringClass() == NameAuction.class) {
                names.add(method.getName());
            }
        }
        return names;
    }

    private static Method methodOf(String name) {
        for (Method method : NameAuction.class.getMethods()) {
            if (method.getDeclaringClass() == NameAuction.class && method.getName().equals(name)) {
                return method;
            }
        }
        return null;
    }

    /** The answer as README.md writes it, an exception among them. */
    private static String answer(NameAuction registry, String name, String[] written) {
        Method method = methodOf(name);
        if (method == null || method.getParameterCount() != written.length) {
            return "no such call";
        }
        Object[] arguments = new Object[written.length];
        for (int i = 0; i < written.length; i++) {
            boolean isNumber = method.getParameterTypes()[i] == int.class;
            arguments[i] = isNumber ? (Object) Integer.valueOf(written[i]) : Boolean.valueOf(written[i]);
        }
        try {
            Object answer = method.invoke(registry, arguments);
            return answer instanceof Character ? "'" + answer + "'" : "" + answer;
        } catch (InvocationTargetException e) {
            return "throws " + e.getCause().getClass().getSimpleName();
        } catch (IllegalAccessException e) {
            return "not public";
        }
    }
}
