import java.io.IOException;
import java.lang.reflect.Field;
import java.lang.reflect.Method;
import java.lang.reflect.Modifier;
import java.nio.file.Files;
import java.nio.file.Path;
import java.util.Map;
import java.util.TreeMap;
import java.util.regex.Matcher;
import java.util.regex.Pattern;

/** What README.md shows is what the class answers, and no call or code is left out there. Runs in the project's folder. */
final class ReadmeTest {
    /** A call in a table, what it answers and, if that is a kind, what number() answers then. */
    private static final Pattern IN_TABLE = Pattern.compile("`(two|one)\\(([^)]*)\\)` (-?\\d+)(?:, (-?\\d+))?");
    private static final Pattern ROW = Pattern.compile("\\| (\\d+) \\| .*");
    private static final Pattern IN_RUN = Pattern.compile("plane\\.(\\w+)\\(([^)]*)\\); +// (\\S+)");

    private static final Due due = new Due("ReadmeTest");
    private static final Map<String, Method> calls = new TreeMap<>();

    public static void main(String[] args) throws IOException, ReflectiveOperationException {
        String page = Files.readString(Path.of("README.md"));
        for (Method method : FixedPlane.class.getDeclaredMethods()) {
            if (Modifier.isPublic(method.getModifiers())) {
                calls.put(method.getName(), method);
            }
        }
        table(page, "two", 11);
        table(page, "one", 12);
        codes(page);
        run(page);
        due.end();
    }

    /** Each operation has its row, and each row an example of that operation. */
    private static void table(String page, String name, int operations) throws ReflectiveOperationException {
        int rows = 0;
        for (String line : section(page, "### " + name + ":").split("\n")) {
            Matcher row = ROW.matcher(line);
            if (row.matches()) {
                due.equal("row of " + name, Integer.parseInt(row.group(1)), rows);
                due.equal(line + " has an example", examples(line, name + "(" + rows + ","), true);
                rows++;
            }
        }
        due.equal("rows of " + name, rows, operations);
    }

    private static String section(String page, String heading) {
        int from = page.indexOf(heading);
        due.equal(heading + " is there", from >= 0, true);
        int to = page.indexOf("\n### ", from + 1);
        return page.substring(Math.max(from, 0), to < 0 ? page.length() : to);
    }

    private static boolean examples(String line, String start) throws ReflectiveOperationException {
        int found = 0;
        Matcher example = IN_TABLE.matcher(line);
        while (example.find()) {
            found++;
            FixedPlane plane = new FixedPlane();
            due.equal(line + " is of its operation", example.group().startsWith("`" + start), true);
            due.same(example.group(), answer(plane, example.group(1), example.group(2)), example.group(3));
            boolean refused = example.group(4) == null;
            due.equal(example.group() + " has a number", refused, example.group(3).startsWith("-"));
            due.same(example.group() + " number()", "" + plane.number(), refused ? "0" : example.group(4));
        }
        return found > 0;
    }

    private static void codes(String page) throws ReflectiveOperationException {
        for (Field field : FixedPlane.class.getDeclaredFields()) {
            if (Modifier.isPublic(field.getModifiers())) {
                String row = "| " + field.getInt(null) + " | `" + field.getName() + "` |";
                due.equal("there is a row " + row, page.contains(row), true);
            }
        }
    }

    /** The calls one after the other on one plane: each public method is among them. */
    private static void run(String page) throws ReflectiveOperationException {
        FixedPlane plane = new FixedPlane();
        Map<String, Method> left = new TreeMap<>(calls);
        left.remove("one");
        Matcher call = IN_RUN.matcher(page);
        while (call.find()) {
            due.same(call.group(), answer(plane, call.group(1), call.group(2)), plain(call.group(3)));
            left.remove(call.group(1));
        }
        due.same("calls without an example", left.keySet().toString(), "[]");
        int shown = page.split("\nplane\\.", -1).length - 1;
        int asked = (int) IN_RUN.matcher(page).results().count();
        due.equal("calls with an answer", asked, shown);
    }

    /** A code's name as its number. */
    private static String plain(String answer) throws ReflectiveOperationException {
        String code = "FixedPlane.";
        if (!answer.startsWith(code)) {
            return answer;
        }
        return "" + FixedPlane.class.getField(answer.substring(code.length())).getInt(null);
    }

    private static String answer(FixedPlane plane, String name, String list) throws ReflectiveOperationException {
        Method method = calls.get(name);
        String[] words = list.isEmpty() ? new String[0] : list.split(", ");
        due.equal("arguments of " + name + "(" + list + ")", words.length, method.getParameterCount());
        Object[] arguments = new Object[words.length];
        for (int k = 0; k < words.length; k++) {
            boolean truth = method.getParameterTypes()[k] == boolean.class;
            arguments[k] = truth ? (Object) Boolean.valueOf(words[k]) : (Object) Integer.valueOf(words[k]);
        }
        return method.invoke(plane, arguments).toString();
    }
}
