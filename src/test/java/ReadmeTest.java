import java.io.File;
import java.io.IOException;
import java.lang.reflect.InvocationTargetException;
import java.lang.reflect.Method;
import java.lang.reflect.Modifier;
import java.nio.file.Files;
import java.nio.file.Path;
import java.util.Map;
import java.util.TreeMap;
import java.util.regex.Matcher;
import java.util.regex.Pattern;

/** What README.md says is so: its example is done call by call, and it names each call and each test. */
public final class ReadmeTest {
    private static final Pattern CALL = Pattern.compile("lift\\.(\\w+)\\((.*)\\); *// (-?\\w+).*");
    private static final int LEAST_CALLS = 20;

    public static void main(String[] args) throws IOException, IllegalAccessException {
        Check check = new Check();
        String page = Files.readString(Path.of("README.md"));
        Map<String, Method> face = face();
        doExample(check, page, face);
        for (String name : face.keySet()) {
            check.due("README.md names " + name, page.contains("`" + name + "`") ? 1 : 0, 1);
        }
        File[] tests = new File("src/test/java").listFiles((dir, name) -> name.endsWith("Test.java"));
        for (File test : tests == null ? new File[0] : tests) {
            String name = test.getName().replace(".java", "");
            check.due("README.md names " + name, page.contains("`" + name + "`") ? 1 : 0, 1);
        }
        check.end("ReadmeTest");
    }

    private static Map<String, Method> face() {
        Map<String, Method> face = new TreeMap<>();
        for (Method m : PraiseLift.class.getDeclaredMethods()) {
            if (Modifier.isPublic(m.getModifiers())) {
                face.put(m.getName(), m);
            }
        }
        return face;
    }

    private static void doExample(Check check, String page, Map<String, Method> face) throws IllegalAccessException {
        int from = page.indexOf("```java");
        int end = page.indexOf("```", from + 1);
        check.due("README.md has an example", from >= 0 && end > from ? 1 : 0, 1);
        PraiseLift lift = new PraiseLift();
        int calls = 0;
        for (String line : page.substring(Math.max(0, from), Math.max(0, end)).split("\n")) {
            if (!line.startsWith("lift.")) {
                continue;
            }
            Matcher m = CALL.matcher(line);
            boolean isCall = m.matches() && face.containsKey(m.group(1));
            check.due(line + " is a call with its answer", isCall ? 1 : 0, 1);
            if (isCall) {
                String got = answer(lift, face.get(m.group(1)), m.group(2));
                check.due(line + " (" + got + ")", got.equals(m.group(3)) ? 1 : 0, 1);
                calls++;
            }
        }
        check.due("calls in the example", calls >= LEAST_CALLS ? 1 : 0, 1);
    }

    private static String answer(PraiseLift lift, Method method, String told) throws IllegalAccessException {
        String[] words = told.isEmpty() ? new String[0] : told.split(", *");
        Object[] values = new Object[words.length];
        for (int i = 0; i < words.length; i++) {
            values[i] = (int) (long) Long.decode(words[i]);
        }
        try {
            return String.valueOf(method.invoke(lift, values));
        } catch (InvocationTargetException e) {
            return e.getCause().getClass().getSimpleName();
        }
    }
}
