import java.io.IOException;
import java.nio.file.Files;
import java.nio.file.Path;
import java.util.ArrayList;
import java.util.Arrays;
import java.util.HashSet;
import java.util.LinkedHashMap;
import java.util.List;
import java.util.Map;
import java.util.Set;
import java.util.regex.Matcher;
import java.util.regex.Pattern;

/**
 * The rules of LANGUAGE.md, as far as they can be seen in the source with simple means. It is run
 * from the project's folder and leans on the way in which the source is laid out.
 */
public final class SourceTest {
    private static final Checks CHECKS = new Checks();
    private static final Pattern METHOD = Pattern.compile("^    (public|private)( static)? (int|long|void|boolean) (\\w+)\\((.*)\\) \\{$");
    private static final Pattern CALL = Pattern.compile("\\b(\\w+)\\(");
    private static final Set<String> NO_CALLS = Set.of("if", "for", "while", "switch", "return");

    private SourceTest() {
    }

    public static void main(String[] arguments) throws IOException {
        String source = Files.readString(Path.of("src/main/java/ListMachine.java"));
        String code = source.replaceAll("(?s)/\\*.*?\\*/", "").replaceAll("//[^\n]*", "");
        words(code);
        Map<String, String> methods = methods(code);
        fields(code);
        calls(methods);
        CHECKS.end();
    }

    private static void words(String code) {
        String[] forbidden = {"float", "double", "String", "Object", "Math", "Integer", "System", "Arrays", "import",
            "package", "null", "throw", "throws", "try", "catch", "synchronized", "assert", "instanceof", "enum", "record",
            "interface", "this", "super", "protected", "var", "getClass", "hashCode", "equals", "toString", "while"};
        for (String word : forbidden) {
            CHECKS.holds("no " + word, !Pattern.compile("\\b" + word + "\\b").matcher(code).find());
        }
        CHECKS.holds("no arrow", !code.contains("->"));
        CHECKS.holds("no method reference", !code.contains("::"));
        CHECKS.holds("no text", !code.contains("\""));
        CHECKS.holds("no annotation", !code.contains("@"));
        CHECKS.holds("no division", !code.contains("/") && !code.contains("%"));
        CHECKS.holds("no arrays of arrays", !code.contains("[][]"));
        CHECKS.same("classes", code.split("\\bclass\\b", -1).length - 1, 1);
    }

    private static void fields(String code) {
        int fields = 0;
        int arrays = 0;
        for (String line : code.split("\n")) {
            if (line.matches("    private( final)? (int|long|boolean)(\\[\\])? \\w+ = .*;")) {
                fields++;
            }
            if (line.matches("    private final (int|long)\\[\\] \\w+ = new (int|long)\\[[A-Z_]+\\];")) {
                arrays++;
            }
            if (line.contains(" static ") && !line.contains("(int ") && !line.contains("(long ")) {
                CHECKS.holds("a static field is a constant:" + line,
                    line.matches("    (public|private) static final (int|long) [A-Z_0-9]+ = .*;"));
            }
        }
        CHECKS.holds("some forty fields, not " + fields, fields <= 40);
        CHECKS.same("every array is made in a field's initialiser", code.split("\\bnew\\b", -1).length - 1, arrays);
    }

    /** The methods' bodies by their names. */
    private static Map<String, String> methods(String code) {
        Map<String, String> methods = new LinkedHashMap<>();
        Set<String> publics = new HashSet<>();
        String[] lines = code.split("\n");
        for (int i = 0; i < lines.length; i++) {
            Matcher head = METHOD.matcher(lines[i]);
            if (head.matches()) {
                int end = Arrays.asList(lines).subList(i, lines.length).indexOf("    }") + i;
                String name = head.group(4);
                CHECKS.holds(name + " is short", end - i < 60);
                CHECKS.holds(name + " has few parameters", head.group(5).split(",").length <= 7);
                CHECKS.holds(name + " is the only one of its name", !methods.containsKey(name) && publics.add(name));
                methods.put(name, String.join("\n", Arrays.asList(lines).subList(i + 1, end)));
            }
        }
        CHECKS.holds("methods were found", methods.size() > 20);
        return methods;
    }

    private static void calls(Map<String, String> methods) {
        Map<String, List<String>> called = new LinkedHashMap<>();
        for (Map.Entry<String, String> method : methods.entrySet()) {
            List<String> names = new ArrayList<>();
            Matcher call = CALL.matcher(method.getValue());
            while (call.find()) {
                if (!NO_CALLS.contains(call.group(1))) {
                    CHECKS.holds(method.getKey() + " calls " + call.group(1), methods.containsKey(call.group(1)));
                    names.add(call.group(1));
                    String given = argumentsOf(method.getValue(), call.end());
                    CHECKS.holds(method.getKey() + " hands on no call: " + given, !CALL.matcher(given).find());
                }
            }
            called.put(method.getKey(), names);
        }
        for (String method : methods.keySet()) {
            int depth = depthOf(method, called, 1);
            CHECKS.holds(method + " goes " + depth + " deep", depth <= 6);
        }
    }

    private static String argumentsOf(String body, int from) {
        int open = 1;
        int at = from;
        while (open > 0) {
            open += body.charAt(at) == '(' ? 1 : body.charAt(at) == ')' ? -1 : 0;
            at++;
        }
        return body.substring(from, at - 1);
    }

    /** More than 6 as soon as it is, so that a ring of calls ends too. */
    private static int depthOf(String method, Map<String, List<String>> called, int depth) {
        int deepest = depth;
        if (depth <= 6) {
            for (String next : called.getOrDefault(method, List.of())) {
                deepest = Math.max(deepest, depthOf(next, called, depth + 1));
            }
        }
        return deepest;
    }
}
