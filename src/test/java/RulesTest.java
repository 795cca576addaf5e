import java.nio.file.Files;
import java.nio.file.Path;
import java.util.List;
import java.util.regex.Matcher;
import java.util.regex.Pattern;

/** The rules of LANGUAGE.md that can be read from the lines of the program. */
public final class RulesTest {
    private static final String[] FORBIDDEN = {"\\bcatch\\b", "\\bfinally\\b", "\\bsynchronized\\b", "\\bassert\\b",
        "->", "::", "\\binstanceof\\b", "\\bpackage\\b", "\\bvar\\b", "\\bDouble\\b", "\\bFloat\\b", "Exact\\b",
        "\\bSystem\\.(?!arraycopy\\b)", "\\bThread\\b", "\\bRandom\\b", "\\bequals\\b", "\\bhashCode\\b",
        "\\btoString\\b", "\"\\s*\\+", "\\+\\s*\"", "static\\s*\\{"};

    public static void main(String[] args) throws Exception {
        List<String> lines = Files.readAllLines(Path.of("src/main/java/FogOrders.java"));
        String code = String.join("\n", lines).replaceAll("(?s)/\\*.*?\\*/|//[^\n]*", "");
        for (String pattern : FORBIDDEN) {
            Matcher found = Pattern.compile(pattern).matcher(code);
            Check.note(!found.find(), "no " + pattern + " in the program");
        }
        imports(lines);
        thrown(code);
        staticFields(code);
        methods(lines);
        Check.end("RulesTest");
    }

    private static void imports(List<String> lines) {
        for (String line : lines) {
            Check.note(!line.startsWith("import ") || line.equals("import java.util.Arrays;"), line);
            Check.note(line.chars().allMatch(c -> c >= 32 && c < 127), "plain characters: " + line);
        }
    }

    private static void thrown(String code) {
        Matcher found = Pattern.compile("\\bthrow\\b[^;]*;").matcher(code);
        Pattern form = Pattern.compile(
                "throw new (IndexOutOfBounds|IllegalArgument|IllegalState)Exception\\(\"[^\"]*\"\\);");
        while (found.find()) {
            Check.note(form.matcher(found.group()).matches(), found.group());
        }
    }

    private static void staticFields(String code) {
        Matcher found = Pattern.compile("(?m)^.*\\bstatic\\b[^(){}\n]*=.*$").matcher(code);
        while (found.find()) {
            Check.note(found.group().matches("\\s*(public|private) static final int [A-Z_]+ = .*"), found.group());
        }
    }

    /** Methods of at most sixty lines, with at most seven parameters. */
    private static void methods(List<String> lines) {
        Pattern head = Pattern.compile("( {4}| {8})[^ }].*\\((.*)\\).*\\{");
        int methods = 0;
        for (int i = 0; i < lines.size(); i++) {
            Matcher found = head.matcher(lines.get(i));
            if (found.matches() && !lines.get(i).matches(" {8}(if|for|while|switch|}).*")) {
                int end = lines.subList(i, lines.size()).indexOf(found.group(1) + "}");
                Check.note(end > 0 && end <= 60, "a short method: " + lines.get(i));
                Check.note(found.group(2).split(",").length <= 7, "few parameters: " + lines.get(i));
                methods++;
            }
        }
        Check.note(methods > 80, "the methods are found: " + methods);
    }
}
