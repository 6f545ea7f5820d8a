import java.io.IOException;
import java.nio.file.Files;
import java.nio.file.Path;
import java.util.ArrayList;
import java.util.List;
import java.util.Map;
import java.util.Set;
import java.util.TreeMap;
import java.util.TreeSet;
import java.util.regex.Matcher;
import java.util.regex.Pattern;

/** The rules of LANGUAGE.md that can be seen in the text of the program. */
public final class LanguageTest {
    private static final String[] FORBIDDEN = {
        "\\bcatch\\b", "\\btry\\b", "\\bfinally\\b", "->", "::", "\\bsynchronized\\b", "\\bassert\\b", "\\bvar\\b", "Exact\\(", "\\bpackage\\b",
        "\\bfloat\\b", "\\bdouble\\b", "\\bSystem\\.(?!arraycopy)", "\\bThread\\b", "\\bRandom\\b", "\\bprotected\\b", "\\bstatic \\{",
        "\\bwhile \\(true\\)", "for \\(;;", "String\\[\\]", "\\bequals\\(", "\\bhashCode\\b", "\\btoString\\b", "\\[\\]\\[\\]"};
    private static final int MOST_LINES = 60;
    private static final int MOST_DEEP = 8;
    private static final int NOWHERE = -1;
    private static final Pattern NAMED = Pattern.compile("(\\w+)\\(");

    public static void main(String[] args) throws IOException {
        Check check = new Check();
        List<String> lines = Files.readAllLines(Path.of("src/main/java/PraiseLift.java"));
        int methods = 0;
        Map<String, Set<String>> calls = new TreeMap<>();
        Set<String> face = new TreeSet<>();
        for (int i = 0; i < lines.size(); i++) {
            String line = lines.get(i);
            if (line.trim().startsWith("//")) {
                continue;
            }
            for (String forbidden : FORBIDDEN) {
                check.due("line " + (i + 1) + " has " + forbidden, Pattern.compile(forbidden).matcher(line).find() ? 1 : 0, 0);
            }
            if (line.startsWith("import ")) {
                boolean listed = line.equals("import java.util.Arrays;") || line.equals("import java.util.NoSuchElementException;");
                check.due(line, listed ? 1 : 0, 1);
            }
            if (line.matches(" {4}( {4})?[\\w\\[\\] ]+\\(.*\\{")) {
                int end = endOf(lines, i);
                check.due("the method at line " + (i + 1) + " ends", end > i ? 1 : 0, 1);
                check.due("the method at line " + (i + 1) + " is short", end - i <= MOST_LINES ? 1 : 0, 1);
                methods++;
                String name = nameOf(line);
                calls.computeIfAbsent(name, k -> new TreeSet<>()).addAll(named(lines.subList(i + 1, Math.max(i + 1, end))));
                if (line.startsWith("    public ")) {
                    face.add(name);
                }
            }
        }
        for (String name : face) {
            check.due("calls below " + name + " are " + MOST_DEEP + " deep at most", deepest(name, calls, new ArrayList<>()) <= MOST_DEEP ? 1 : 0, 1);
        }
        check.due("methods were found", methods > 100 ? 1 : 0, 1);
        check.end("LanguageTest");
    }

    private static String nameOf(String header) {
        String front = header.substring(0, header.indexOf('('));
        return front.substring(front.lastIndexOf(' ') + 1);
    }

    /** What stands in front of a bracket, calls among it. */
    private static Set<String> named(List<String> body) {
        Set<String> names = new TreeSet<>();
        for (String line : body) {
            Matcher m = NAMED.matcher(line);
            while (m.find()) {
                names.add(m.group(1));
            }
        }
        return names;
    }

    /** The longest way of calls in which no method stands twice: what is counted so holds for recursion, too. */
    private static int deepest(String name, Map<String, Set<String>> calls, List<String> open) {
        if (!calls.containsKey(name) || open.contains(name)) {
            return 0;
        }
        open.add(name);
        int most = 0;
        for (String next : calls.get(name)) {
            most = Math.max(most, deepest(next, calls, open));
        }
        open.remove(open.size() - 1);
        return most + 1;
    }

    /** The line of the brace that stands as far in as the method's first line. */
    private static int endOf(List<String> lines, int from) {
        String line = lines.get(from);
        String end = line.substring(0, line.length() - line.stripLeading().length()) + "}";
        for (int i = from; i < lines.size(); i++) {
            if (lines.get(i).equals(end)) {
                return i;
            }
        }
        return NOWHERE;
    }
}
