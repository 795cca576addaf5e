import java.nio.file.Files;
import java.nio.file.Path;
import java.util.List;
import java.util.Map;
import java.util.Set;
import java.util.TreeMap;
import java.util.TreeSet;
import java.util.regex.Matcher;
import java.util.regex.Pattern;

/** The rules of LANGUAGE.md that can be read from the lines of the program. */
public final class RulesTest {
    private static final String[] FORBIDDEN = {"\\bcatch\\b", "\\bfinally\\b", "\\bsynchronized\\b", "\\bassert\\b",
        "->", "::", "\\binstanceof\\b", "\\bpackage\\b", "\\bvar\\b", "\\bDouble\\b", "\\bFloat\\b", "Exact\\b",
        "\\bSystem\\.(?!arraycopy\\b)", "\\bThread\\b", "\\bRandom\\b", "\\bequals\\b", "\\bhashCode\\b",
        "\\btoString\\b", "\"\\s*\\+", "\\+\\s*\"", "static\\s*\\{"};

    public static void main(String[] args) throws Exception {
        List<String> lines = Files.readAllLines(Path.of("src/main/java/FogOrders.java"));
        String code = String.join("\n", lines).replaceAll("(?s)/\\*.*?\\*/|//[^\n]*", "");
        for (String pattern : FORBIDDEN) {
            Matcher found = Pattern.compile(pattern).matcher(code);
            Check.note(!found.find(), "no " + pattern + " in the program");
        }
        imports(lines);
        thrown(code);
        staticFields(code);
        made(code);
        methods(lines);
        depth(List.of(code.split("\n")));
        Check.end("RulesTest");
    }

    private static void imports(List<String> lines) {
        for (String line : lines) {
            Check.note(!line.startsWith("import ") || line.equals("import java.util.Arrays;"), line);
            Check.note(line.chars().allMatch(c -> c >= 32 && c < 127), "plain characters: " + line);
        }
    }

    private static void thrown(String code) {
        Matcher found = Pattern.compile("\\bthrow\\b[^;]*;").matcher(code);
        Pattern form = Pattern.compile(
                "throw new (IndexOutOfBounds|IllegalArgument|IllegalState)Exception\\(\"[^\"]*\"\\);");
        while (found.find()) {
            Check.note(form.matcher(found.group()).matches(), found.group());
        }
    }

    private static void staticFields(String code) {
        Matcher found = Pattern.compile("(?m)^.*\\bstatic\\b[^(){}\n]*=.*$").matcher(code);
        while (found.find()) {
            Check.note(found.group().matches("\\s*(public|private) static final int [A-Z_]+ = .*"), found.group());
        }
    }

    /** Rule 12: a constructor hands out nothing of the object that it makes. All are made in constructors here. */
    private static void made(String code) {
        Matcher found = Pattern.compile("(throw )?new [A-Z]\\w*\\(([^)]*)\\)").matcher(code);
        int made = 0;
        while (found.find()) {
            if (found.group(1) == null) {
                Check.note(found.group(2).isEmpty(), "handed nothing: " + found.group());
                made++;
            }
        }
        Check.note(made > 4, "what is made is found: " + made);
        Check.note(!Pattern.compile("\\bthis\\b").matcher(code).find(), "no object hands itself out");
    }

    /** Methods of at most sixty lines, with at most seven parameters. */
    private static void methods(List<String> lines) {
        Pattern head = Pattern.compile("( {4}| {8})[^ }].*\\((.*)\\).*\\{");
        int methods = 0;
        for (int i = 0; i < lines.size(); i++) {
            Matcher found = head.matcher(lines.get(i));
            if (found.matches() && !lines.get(i).matches(" {8}(if|for|while|switch|}).*")) {
                int end = lines.subList(i, lines.size()).indexOf(found.group(1) + "}");
                Check.note(end > 0 && end <= 60, "a short method: " + lines.get(i));
                Check.note(found.group(2).split(",").length <= 7, "few parameters: " + lines.get(i));
                methods++;
            }
        }
        Check.note(methods > 80, "the methods are found: " + methods);
    }

    /** Rule 11: calls go at most eight deep. Methods of one name are taken for one, so no chain is overlooked. */
    private static void depth(List<String> lines) {
        Map<String, Set<String>> calls = callsByMethod(lines);
        int deepest = 0;
        for (String name : calls.keySet()) {
            deepest = Math.max(deepest, depthOf(name, calls, 20));
        }
        Check.note(deepest <= 8, "calls go " + deepest + " deep, due is at most 8");
        Check.note(deepest >= 7, "the calls are found: " + deepest);
    }

    /** How many calls stand open at most, from this one on; no more than the most that are looked for. */
    private static int depthOf(String name, Map<String, Set<String>> calls, int most) {
        int below = 0;
        for (String called : calls.get(name)) {
            if (most > 1 && calls.containsKey(called)) {
                below = Math.max(below, depthOf(called, calls, most - 1));
            }
        }
        return below + 1;
    }

    private static Map<String, Set<String>> callsByMethod(List<String> lines) {
        Pattern head = Pattern.compile("(?: {4}| {8})(?:public |private |static )*(?:int|long|double|boolean|void|Board)"
                + " (\\w+)\\(.*\\{");
        Pattern call = Pattern.compile("\\b(?!if\\b|for\\b|switch\\b|while\\b)([a-z]\\w*)\\(");
        Map<String, Set<String>> calls = new TreeMap<>();
        Set<String> called = new TreeSet<>();
        for (String line : lines) {
            Matcher found = head.matcher(line);
            if (found.matches()) {
                called = calls.computeIfAbsent(found.group(1), name -> new TreeSet<>());
            } else {
                Set<String> names = called;
                call.matcher(line).results().forEach(result -> names.add(result.group(1)));
            }
        }
        return calls;
    }
}
