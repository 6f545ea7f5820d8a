import java.io.IOException;
import java.lang.reflect.Constructor;
import java.lang.reflect.Field;
import java.lang.reflect.Method;
import java.lang.reflect.Modifier;
import java.nio.file.Files;
import java.nio.file.Path;
import java.util.ArrayList;
import java.util.List;
import java.util.Set;
import java.util.TreeSet;
import java.util.regex.Matcher;
import java.util.regex.Pattern;

/** The public face as the document tells it, and rule 1 of LANGUAGE.md. */
public final class FaceTest {
    private static final Path DOCUMENT = Path.of("../shared/DOC.md");
    private static final Pattern METHOD = Pattern.compile("    public (int|long) (\\w+)\\((.*)\\)(?: throws (.*))?;");

    public static void main(String[] args) throws IOException {
        Check check = new Check();
        Set<String> due = toldFace();
        check.due("methods in the document", due.size(), 42);
        Set<String> found = new TreeSet<>();
        Set<String> publicNames = new TreeSet<>();
        for (Method m : PraiseLift.class.getDeclaredMethods()) {
            if (Modifier.isPrivate(m.getModifiers()) || m.isSynthetic()) {
                continue;
            }
            check.due(m + " is public", Modifier.isPublic(m.getModifiers()) ? 1 : 0, 1);
            found.add(sign(m));
            publicNames.add(m.getName());
        }
        check.due("the face is " + due + ", found " + found, due.equals(found) ? 1 : 0, 1);
        namesInside(check, publicNames);
        fields(check);
        Constructor<?>[] made = PraiseLift.class.getDeclaredConstructors();
        check.due("one constructor", made.length, 1);
        check.due("it is public", Modifier.isPublic(made[0].getModifiers()) ? 1 : 0, 1);
        check.due("final class", Modifier.isFinal(PraiseLift.class.getModifiers()) ? 1 : 0, 1);
        check.due("12 classes at most", PraiseLift.class.getDeclaredClasses().length < 12 ? 1 : 0, 1);
        check.end("FaceTest");
    }

    /** Each method of the document's face, with the types of what it takes and throws. */
    private static Set<String> toldFace() throws IOException {
        Set<String> all = new TreeSet<>();
        for (String line : Files.readAllLines(DOCUMENT)) {
            Matcher m = METHOD.matcher(line);
            if (m.matches()) {
                String types = m.group(3).replaceAll("(\\w+) \\w+", "$1").replace(" ", "");
                String thrown = m.group(4) == null ? "" : m.group(4).replace(" ", "");
                all.add(m.group(1) + " " + m.group(2) + "(" + types + ")" + thrown);
            }
        }
        return all;
    }

    private static String sign(Method m) {
        List<String> types = new ArrayList<>();
        for (Class<?> type : m.getParameterTypes()) {
            types.add(type.getName());
        }
        List<String> thrown = new ArrayList<>();
        for (Class<?> type : m.getExceptionTypes()) {
            thrown.add(type.getSimpleName());
        }
        return m.getReturnType().getName() + " " + m.getName() + "(" + String.join(",", types) + ")" + String.join(",", thrown);
    }

    private static void namesInside(Check check, Set<String> publicNames) {
        List<Class<?>> all = new ArrayList<>(List.of(PraiseLift.class.getDeclaredClasses()));
        all.add(PraiseLift.class);
        for (Class<?> c : all) {
            for (Method m : c.getDeclaredMethods()) {
                boolean own = c != PraiseLift.class || Modifier.isPrivate(m.getModifiers());
                if (own) {
                    check.due(m + " bears a public name", publicNames.contains(m.getName()) ? 1 : 0, 0);
                }
                boolean isFace = c == PraiseLift.class && m.getName().equals("would");
                check.due(m + " takes at most 7", isFace || m.getParameterCount() <= 7 ? 1 : 0, 1);
            }
            int fields = 0;
            for (Field f : c.getDeclaredFields()) {
                fields += Modifier.isStatic(f.getModifiers()) ? 0 : 1;
                if (Modifier.isStatic(f.getModifiers())) {
                    check.due(f + " is final", Modifier.isFinal(f.getModifiers()) ? 1 : 0, 1);
                }
            }
            check.due(c + " has at most 20 fields", fields <= 20 ? 1 : 0, 1);
            if (c != PraiseLift.class) {
                check.due(c + " is static", Modifier.isStatic(c.getModifiers()) ? 1 : 0, 1);
            }
        }
    }

    private static void fields(Check check) {
        for (Field f : PraiseLift.class.getDeclaredFields()) {
            boolean isFace = f.getName().equals("NONE");
            check.due(f + " is private", isFace || Modifier.isPrivate(f.getModifiers()) ? 1 : 0, 1);
        }
    }
}
