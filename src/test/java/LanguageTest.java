import java.io.IOException;
import java.nio.file.Files;
import java.nio.file.Path;
import java.util.LinkedHashMap;
import java.util.Map;
import java.util.Set;
import java.util.TreeSet;
import java.util.regex.Matcher;
import java.util.regex.Pattern;

/** Those rules of LANGUAGE.md that the text of the source shows. Runs in the project's folder. */
final class LanguageTest {
    private static final Path SOURCE = Path.of("src/main/java/FixedPlane.java");
    private static final int LONGEST_METHOD = 60;
    private static final int MOST_PARAMETERS = 7;
    private static final int DEEPEST_CALL = 8;

    // "new" too: a program that makes nothing never fills the room.
    private static final String[] FORBIDDEN = {
        "throw", "throws", "try", "catch", "synchronized", "assert", "instanceof", "import", "package",
        "new", "double", "float", "String", "while", "protected", "volatile", "\\w*Exact", "->", "::"};

    private static final Pattern METHOD = Pattern.compile(
        "\\n    (public|private)( static)?( \\w+)? (\\w+)\\(([^)]*)\\) \\{\\n(.*?)\\n    \\}\\n", Pattern.DOTALL);
    private static final Pattern CALL = Pattern.compile("(?<![\\w])([\\w.]+)\\(");

    private static final Due due = new Due("LanguageTest");
    private static final Map<String, String> bodies = new LinkedHashMap<>();
    private static final Set<String> open = new TreeSet<>();

    public static void main(String[] args) throws IOException {
        String source = Files.readString(SOURCE);
        String code = source.replaceAll("(?s)/\\*.*?\\*/", "").replaceAll("//[^\\n]*", "");
        due.equal("signs of 1 to 127 alone", source.chars().allMatch(sign -> sign > 0 && sign < 128), true);
        for (String word : FORBIDDEN) {
            boolean stands = Pattern.compile(word.matches("\\w+") ? "\\b" + word + "\\b" : word).matcher(code).find();
            due.equal("'" + word + "' stands in the source", stands, false);
        }
        methods(code);
        due.end();
    }

    private static void methods(String code) {
        Set<String> names = new TreeSet<>();
        Matcher method = METHOD.matcher(code);
        for (int at = 0; method.find(at); at = method.end() - 1) {
            String name = method.group(4);
            due.equal(name + " is another method's name too", names.add(name), true);
            due.equal(name + " has few parameters", method.group(5).split(",").length <= MOST_PARAMETERS, true);
            due.equal(name + " is short", method.group(6).split("\n").length <= LONGEST_METHOD, true);
            bodies.put(name, method.group(6));
        }
        due.equal("methods were found", bodies.size() > 30, true);
        for (String name : bodies.keySet()) {
            due.equal("calls from " + name + " are not too deep", depth(name) <= DEEPEST_CALL, true);
        }
    }

    /** How many calls stand open at the most, this one and the library's counted. */
    private static int depth(String name) {
        if (!bodies.containsKey(name)) {
            return 1;
        }
        due.equal(name + " calls itself", open.add(name), true);
        int deepest = 0;
        Matcher call = CALL.matcher(bodies.get(name));
        while (call.find()) {
            if (!call.group(1).matches("if|for|switch|while|return")) {
                deepest = Math.max(deepest, depth(call.group(1)));
            }
        }
        open.remove(name);
        return deepest + 1;
    }
}
