import java.lang.reflect.Method;
import java.lang.reflect.Modifier;
import java.nio.file.Files;
import java.nio.file.Path;
import java.util.ArrayList;
import java.util.Arrays;
import java.util.List;
import java.util.Map;
import java.util.TreeMap;
import java.util.function.IntUnaryOperator;
import java.util.regex.Matcher;
import java.util.regex.Pattern;

/** README.md: every call with its exceptions in their order, the numbers of the looks, and the example. */
public final class ReadmeTest {
    private static final Pattern ROW = Pattern.compile("\\| `(\\w+)\\(([^)]*)\\)` \\| (.+) \\| (.+) \\|");
    private static final Pattern EXCEPTION = Pattern.compile("`(\\w+Exception)`: \\S");

    private static List<String> lines;

    public static void main(String[] args) throws Exception {
        lines = Files.readAllLines(Path.of("README.md"));
        calls();
        numbers();
        example();
        tests();
        said("changes nothing");
        said("512 calls");
        Check.end("ReadmeTest");
    }

    private static void calls() {
        Map<String, String> rows = new TreeMap<>();
        for (String line : lines) {
            Matcher row = ROW.matcher(line);
            if (row.matches()) {
                List<String> thrown = new ArrayList<>();
                EXCEPTION.matcher(row.group(4)).results().forEach(found -> thrown.add(found.group(1)));
                Check.note(thrown.isEmpty() == row.group(4).equals("none"), "exceptions or none: " + line);
                int takes = row.group(2).isEmpty() ? 0 : row.group(2).split(", ").length;
                rows.put(row.group(1), takes + " " + thrown);
            }
        }
        Map<String, String> face = new TreeMap<>();
        for (Method method : FogOrders.class.getDeclaredMethods()) {
            if (Modifier.isPublic(method.getModifiers())) {
                List<String> thrown = Arrays.stream(method.getExceptionTypes()).map(Class::getSimpleName).toList();
                face.put(method.getName(), method.getParameterCount() + " " + thrown);
            }
        }
        Check.due("calls on the page", rows.size(), 23);
        Check.note(rows.equals(face), "the page says " + rows + ", the face is " + face);
    }

    /** The rows of the table of numbers are filled just where a look answers. */
    private static void numbers() {
        FogOrders orders = Setup.armies(0, 0);
        column(1, what -> orders.armyOf(0, what));
        column(2, what -> orders.field(0, what));
        column(3, what -> orders.seat(0, what));
        column(4, orders::count);
        column(5, what -> orders.ifOpened(0, what));
    }

    private static void column(int column, IntUnaryOperator look) {
        int rows = 0;
        for (String line : lines) {
            String[] cells = line.split("\\|", -1);
            if (line.matches("\\| \\d+ \\|.*")) {
                boolean isFilled = !cells[column + 1].isBlank();
                Check.note(isFilled == answers(look, Integer.parseInt(cells[1].trim())), column + " in: " + line);
                rows++;
            }
        }
        Check.due("rows of numbers", rows, 13);
        Check.note(!answers(look, rows), "no answer behind the last row");
    }

    private static boolean answers(IntUnaryOperator look, int what) {
        try {
            look.applyAsInt(what);
            return true;
        } catch (IllegalArgumentException e) {
            return false;
        }
    }

    private static void example() {
        FogOrders map = new FogOrders();
        int mine = map.army(0, 0);
        told("int mine = map.army(0, 0);", mine);
        int other = map.army(1, 1);
        told("int other = map.army(1, 1);", other);
        int helper = map.army(0, 5);
        told("int helper = map.army(0, 5);", helper);
        told("map.move(mine, 1);", map.move(mine, 1));
        told("map.support(helper, 0, 1);", map.support(helper, 0, 1));
        told("map.ifOpened(other, 3);", map.ifOpened(other, 3));
        told("map.open();", map.open());
        told("map.undo();", map.undo());
        int length = 0;
        for (char c : "0m4;2h".toCharArray()) {
            length = map.append(c);
        }
        told("map.append(c);", "1 to " + length);
        told("map.orders();", map.orders());
    }

    private static void told(String call, int answer) {
        told(call, String.valueOf(answer));
    }

    /** The line of the example with this call says the answer first. */
    private static void told(String call, String answer) {
        Pattern line = Pattern.compile(" *" + Pattern.quote(call) + " +// " + Pattern.quote(answer) + "(:.*)?");
        Check.due("lines that tell " + call + " answers " + answer,
                lines.stream().filter(text -> line.matcher(text).matches()).count(), 1);
    }

    /** Every test of the project stands on the page. */
    private static void tests() throws Exception {
        String page = String.join("\n", lines);
        try (var files = Files.list(Path.of("src/test/java"))) {
            for (Path file : files.toList()) {
                String name = file.getFileName().toString().replace(".java", "");
                Check.note(!name.endsWith("Test") || page.contains("`" + name + "`"), name + " stands on the page");
            }
        }
    }

    private static void said(String words) {
        Check.note(String.join("\n", lines).contains(words), "the page says: " + words);
    }
}
