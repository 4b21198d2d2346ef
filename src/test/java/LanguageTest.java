import java.io.IOException;
import java.nio.file.Files;
import java.nio.file.Path;
import java.util.HashMap;
import java.util.HashSet;
import java.util.Map;
import java.util.Set;
import java.util.regex.Matcher;
import java.util.regex.Pattern;

/** Looks over the program's text for what ../shared/LANGUAGE.md leaves out and a machine can see. */
public final class LanguageTest {
    private static final Check CHECK = new Check("LanguageTest");
    private static final String[] LEFT_OUT = {
        "\\bthrow\\b", "\\bthrows\\b", "\\btry\\b", "\\bcatch\\b", "\\bsynchronized\\b", "\\bassert\\b", "->", "::",
        "\\bpackage\\b", "\\bimport\\b", "\\bObject\\b", "\\bThread\\b", "\\bSystem\\b", "\\bstatic\\s*\\{", "\"",
        "\\w+Exact\\b", "\\bprotected\\b", "\\bhashCode\\b", "\\btoString\\b", "\\bequals\\b", "@"};
    private static final Pattern METHOD =
        Pattern.compile("(?m)^( {4}| {8})(?:(public|private) )?(?:static )?(?:int|long|boolean|void) (\\w+)\\(([^)]*)\\) \\{$");

    private LanguageTest() { }

    public static void main(String[] args) throws IOException {
        String text = Files.readString(Path.of("src/main/java/RoadWorks.java"));
        CHECK.part("RoadWorks.java");
        CHECK.holds("signs 1 to 127", text.chars().allMatch(c -> c >= 1 && c <= 127));
        String code = text.replaceAll("(?s)/\\*.*?\\*/", "").replaceAll("//[^\n]*", "");
        for (String word : LEFT_OUT) CHECK.holds("no " + word, !Pattern.compile(word).matcher(code).find());
        classes(code);
        methods(code);
        CHECK.end();
    }

    private static void classes(String code) {
        Matcher classes = Pattern.compile("(.*)\\bclass (\\w+)").matcher(code);
        int count = 0;
        while (classes.find()) {
            count++;
            String due = count == 1 ? "public final " : "    private static final ";
            CHECK.holds(classes.group(2) + " is " + due, classes.group(1).equals(due));
        }
        CHECK.holds("one to twelve classes, not " + count, count >= 1 && count <= 12);
    }

    private static void methods(String code) {
        Set<String> open = new HashSet<>();
        Set<String> others = new HashSet<>();
        Map<String, String> bodies = new HashMap<>();
        Matcher methods = METHOD.matcher(code);
        while (methods.find()) {
            boolean face = methods.group(1).length() == 4 && "public".equals(methods.group(2));
            (face ? open : others).add(methods.group(3));
            CHECK.holds(methods.group(3) + " takes seven at most", methods.group(4).split(",").length <= 7);
            String body = code.substring(methods.end(), code.indexOf("\n" + methods.group(1) + "}\n", methods.end()));
            CHECK.holds(methods.group(3) + " is short", body.split("\n").length <= 40);
            bodies.merge(methods.group(3), body, (one, other) -> one + other);
        }
        CHECK.holds("22 public methods, not " + open.size(), open.size() == 22);
        for (String name : others) CHECK.holds(name + " is no public name", !open.contains(name));
        for (String name : open) {
            int depth = depth(name, bodies, 1);
            CHECK.holds(name + " goes eight calls deep at most, not " + depth, depth <= 8);
        }
    }

    /** How deep a method's calls go, of own ones and of Math's; one that calls itself goes deeper than all others. */
    private static int depth(String name, Map<String, String> bodies, int above) {
        if (above > 20) return above;
        String body = bodies.get(name);
        int deepest = body.contains("Math.") ? above + 1 : above;
        for (String other : bodies.keySet()) {
            if (!Pattern.compile("\\b" + other + "\\(").matcher(body).find()) continue;
            deepest = Math.max(deepest, depth(other, bodies, above + 1));
        }
        return deepest;
    }
}
