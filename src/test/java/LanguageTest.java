import java.io.IOException;
import java.nio.file.Files;
import java.nio.file.Path;
import java.util.LinkedHashMap;
import java.util.Map;
import java.util.Set;
import java.util.TreeSet;
import java.util.regex.Matcher;
import java.util.regex.Pattern;

/**
 * What of LANGUAGE.md can be read off the source of the class: rules 3, 4, 6, 8 and 10, and rule 7's divisors. That no
 * other class is named (rule 3) leaves no way to a clock, a random source or a file either (rule 11).
 */
public final class LanguageTest {
    private static final Path SOURCE = Path.of("src/main/java/IdInterconnect.java");
    private static final Pattern HEADER = Pattern.compile("^    (?:public|private) (?:static )?(?:\\w+ )?(\\w+)\\(.*\\) \\{$");
    private static final Pattern CALL = Pattern.compile("\\b([a-z]\\w*)\\s*\\(");
    private static final Pattern LOOP = Pattern.compile("\\bfor \\(int (\\w+) = 0; \\1 < (\\w+); \\1\\+\\+\\) \\{");
    private static final Set<String> NOT_CALLS = Set.of("if", "for", "while", "switch", "return");

    private LanguageTest() {
    }

    public static void main(String[] args) throws IOException {
        String code = withoutComments(Files.readString(SOURCE));
        words(code);
        arrays(code);
        divisors(code);
        loops(code);
        Map<String, String> bodies = bodies(code);
        Due.part("rule 10");
        Due.yes("the methods were found", bodies.size() > 17);
        lengths(bodies);
        nestedCalls(code);
        depths(bodies);
        Due.end();
    }

    private static String withoutComments(String source) {
        return source.replaceAll("(?s)/\\*.*?\\*/", "").replaceAll("//[^\n]*", "");
    }

    private static boolean has(String code, String pattern) {
        return Pattern.compile(pattern).matcher(code).find();
    }

    private static void words(String code) {
        Due.part("rules 3 and 6");
        String[] words = {"import", "package", "throw", "throws", "try", "catch", "finally", "synchronized", "assert",
            "instanceof", "null", "float", "double", "interface", "enum", "record", "var", "native", "volatile"};
        for (String word : words) {
            Due.no("the word " + word, has(code, "\\b" + word + "\\b"));
        }
        Due.no("a string or a character", has(code, "[\"']"));
        Due.no("a lambda or a method reference", has(code, "->|::"));
        Due.no("an annotation", has(code, "@"));
        Due.no("the name of another class", has(code, "\\b(?!IdInterconnect\\b)[A-Z]\\w*[a-z]"));
    }

    private static void arrays(String code) {
        Due.part("rule 4");
        int all = count(code, "\\bnew\\b");
        int fields = count(code, "(?m)^    private final (\\w+)\\[\\] \\w+ = new \\1\\[[A-Z_]+\\];$");
        Due.yes("there are arrays", all > 0);
        Due.is("arrays made outside a field's initialiser", all - fields, 0);
        Due.no("an array of arrays", has(code, "\\[\\]\\s*\\["));
        Due.no("an array that is answered", has(code, "\\[\\] \\w+\\("));
    }

    private static int count(String code, String pattern) {
        return (int) Pattern.compile(pattern).matcher(code).results().count();
    }

    private static void divisors(String code) {
        Due.part("rule 7");
        int byConstant = count(code, "[/%] [A-Z][A-Z_]*\\b");
        Due.yes("there are divisions", byConstant > 0);
        Due.is("divisions by anything but a constant", count(code, "[/%]") - byConstant, 0);
    }

    /** Narrower than the rule, which lets other loops pass too: from these the end can be seen by a test. */
    private static void loops(String code) {
        Due.part("rule 8");
        Due.no("while or do", has(code, "\\b(?:while|do)\\b"));
        int counted = 0;
        Matcher loop = LOOP.matcher(code);
        while (loop.find()) {
            counted++;
            String body = between(code, loop.end(), '{', '}');
            for (int i = 1; i <= 2; i++) {
                Due.no(loop.group() + " changes " + loop.group(i), changes(body, loop.group(i)));
            }
        }
        Due.yes("there are loops", counted > 0);
        Due.is("loops that are not a counter against a bound", count(code, "\\bfor\\b") - counted, 0);
    }

    private static boolean changes(String body, String name) {
        String word = "\\b" + name + "\\b";
        return has(body, word + "\\s*(?:[-+*/%&|^]|<<|>>>?)?=(?!=)") || has(body, word + "\\s*(?:\\+\\+|--)")
            || has(body, "(?:\\+\\+|--)\\s*" + word);
    }

    private static Map<String, String> bodies(String code) {
        Map<String, String> bodies = new LinkedHashMap<>();
        String name = null;
        StringBuilder body = new StringBuilder();
        for (String line : code.split("\n")) {
            Matcher header = HEADER.matcher(line);
            if (header.matches()) {
                name = header.group(1);
                body.setLength(0);
            } else if (name != null && line.equals("    }")) {
                bodies.put(name, body.toString());
                name = null;
            } else {
                body.append(line).append('\n');
            }
        }
        return bodies;
    }

    private static void lengths(Map<String, String> bodies) {
        for (Map.Entry<String, String> method : bodies.entrySet()) {
            Due.yes(method.getKey() + " is short", method.getValue().split("\n").length <= 60);
        }
    }

    private static void nestedCalls(String code) {
        Matcher call = CALL.matcher(code);
        while (call.find()) {
            if (!NOT_CALLS.contains(call.group(1))) {
                String inside = between(code, call.end(), '(', ')');
                Due.no("a call inside " + call.group(1) + "(" + inside + ")", CALL.matcher(inside).find());
            }
        }
    }

    /** What stands from start to the bracket that closes the one before start. */
    private static String between(String code, int start, char opening, char closing) {
        int open = 1;
        int end = start;
        while (open > 0) {
            char c = code.charAt(end);
            open += c == opening ? 1 : c == closing ? -1 : 0;
            end++;
        }
        return code.substring(start, end - 1);
    }

    private static void depths(Map<String, String> bodies) {
        for (String name : bodies.keySet()) {
            Due.part("rules 8 and 10");
            Due.yes(name + " is at most six deep", depth(bodies, name, 1) <= 6);
        }
    }

    /** Stops at seven, so that a recursion shows as a depth that is too great. */
    private static int depth(Map<String, String> bodies, String name, int at) {
        int deepest = at;
        for (String called : calls(bodies, name)) {
            if (at < 7) {
                deepest = Math.max(deepest, depth(bodies, called, at + 1));
            }
        }
        return deepest;
    }

    private static Set<String> calls(Map<String, String> bodies, String name) {
        Set<String> called = new TreeSet<>();
        Matcher call = CALL.matcher(bodies.get(name));
        while (call.find()) {
            if (bodies.containsKey(call.group(1))) {
                called.add(call.group(1));
            } else {
                Due.yes(name + " calls " + call.group(1) + ", which is not here", NOT_CALLS.contains(call.group(1)));
            }
        }
        return called;
    }
}
