import java.io.IOException;
import java.nio.file.Files;
import java.nio.file.Path;
import java.util.List;
import java.util.regex.Pattern;

/** The rules of LANGUAGE.md that can be seen in the text of the program. */
public final class LanguageTest {
    private static final String[] FORBIDDEN = {
        "\\bcatch\\b", "\\btry\\b", "\\bfinally\\b", "->", "::", "\\bsynchronized\\b", "\\bassert\\b", "\\bvar\\b", "Exact\\(", "\\bpackage\\b",
        "\\bfloat\\b", "\\bdouble\\b", "\\bSystem\\.(?!arraycopy)", "\\bThread\\b", "\\bRandom\\b", "\\bprotected\\b", "\\bstatic \\{",
        "\\bwhile \\(true\\)", "for \\(;;", "String\\[\\]", "\\bequals\\(", "\\bhashCode\\b", "\\btoString\\b", "\\[\\]\\[\\]"};
    private static final int MOST_LINES = 60;
    private static final int NOWHERE = -1;

    public static void main(String[] args) throws IOException {
        Check check = new Check();
        List<String> lines = Files.readAllLines(Path.of("src/main/java/PraiseLift.java"));
        int methods = 0;
        for (int i = 0; i < lines.size(); i++) {
            String line = lines.get(i);
            if (line.trim().startsWith("//")) {
                continue;
            }
            for (String forbidden : FORBIDDEN) {
                check.due("line " + (i + 1) + " has " + forbidden, Pattern.compile(forbidden).matcher(line).find() ? 1 : 0, 0);
            }
            if (line.startsWith("import ")) {
                boolean listed = line.equals("import java.util.Arrays;") || line.equals("import java.util.NoSuchElementException;");
                check.due(line, listed ? 1 : 0, 1);
            }
            if (line.matches(" {4}( {4})?[\\w\\[\\] ]+\\(.*\\{")) {
                int end = endOf(lines, i);
                check.due("the method at line " + (i + 1) + " ends", end > i ? 1 : 0, 1);
                check.due("the method at line " + (i + 1) + " is short", end - i <= MOST_LINES ? 1 : 0, 1);
                methods++;
            }
        }
        check.due("methods were found", methods > 100 ? 1 : 0, 1);
        check.end("LanguageTest");
    }

    /** The line of the brace that stands as far in as the method's first line. */
    private static int endOf(List<String> lines, int from) {
        String line = lines.get(from);
        String end = line.substring(0, line.length() - line.stripLeading().length()) + "}";
        for (int i = from; i < lines.size(); i++) {
            if (lines.get(i).equals(end)) {
                return i;
            }
        }
        return NOWHERE;
    }
}
