import java.lang.reflect.Constructor;
import java.lang.reflect.Field;
import java.lang.reflect.Method;
import java.lang.reflect.Modifier;
import java.util.ArrayList;
import java.util.List;
import java.util.Set;
import java.util.TreeSet;

/** The public face as the document tells it, and rule 1 of LANGUAGE.md. */
public final class FaceTest {
    private static final String[] FACE = {
        "int feed(int,int,int,int,int)", "int house(int)", "int law(int)", "int work(int)", "int book(int)", "int fault()", "int undo()",
        "int told(int)", "int man(int,int)", "int card(int,int)", "int heard(int,int)", "int swells(int,int)",
        "int would(int,int,int,int,int,int,int,int,int)", "int ahead(int,int)", "int to(int)", "int rides()", "int couple(int)",
        "int meet(int)", "int cheapest(int)", "int fits(int)", "int look(int)", "long streak(int,int,int,int)", "int flatter(int,int,int)",
        "int breath(int,int,int)", "int heaviest(int)", "int waiting()", "int floor(int)", "int sweetest(int,int)", "int lacks()",
        "int truest(int,int)", "int proud(int)", "int liked(int)", "int above(int)", "int ride(int)", "int vacant()", "int times(int,int,int)",
        "int week(int,int,int,int)", "int span(int,int,int,int,int,int)", "int image()", "int restore()", "int status(int)", "int count(int)"};

    public static void main(String[] args) {
        Check check = new Check();
        Set<String> due = new TreeSet<>(List.of(FACE));
        Set<String> found = new TreeSet<>();
        Set<String> publicNames = new TreeSet<>();
        for (Method m : PraiseLift.class.getDeclaredMethods()) {
            if (Modifier.isPrivate(m.getModifiers()) || m.isSynthetic()) {
                continue;
            }
            check.due(m + " is public", Modifier.isPublic(m.getModifiers()) ? 1 : 0, 1);
            found.add(sign(m));
            publicNames.add(m.getName());
        }
        check.due("the face is " + due + ", found " + found, due.equals(found) ? 1 : 0, 1);
        namesInside(check, publicNames);
        fields(check);
        Constructor<?>[] made = PraiseLift.class.getDeclaredConstructors();
        check.due("one constructor", made.length, 1);
        check.due("it is public", Modifier.isPublic(made[0].getModifiers()) ? 1 : 0, 1);
        check.due("final class", Modifier.isFinal(PraiseLift.class.getModifiers()) ? 1 : 0, 1);
        check.due("12 classes at most", PraiseLift.class.getDeclaredClasses().length < 12 ? 1 : 0, 1);
        check.end("FaceTest");
    }

    private static String sign(Method m) {
        List<String> types = new ArrayList<>();
        for (Class<?> type : m.getParameterTypes()) {
            types.add(type.getName());
        }
        return m.getReturnType().getName() + " " + m.getName() + "(" + String.join(",", types) + ")";
    }

    private static void namesInside(Check check, Set<String> publicNames) {
        List<Class<?>> all = new ArrayList<>(List.of(PraiseLift.class.getDeclaredClasses()));
        all.add(PraiseLift.class);
        for (Class<?> c : all) {
            for (Method m : c.getDeclaredMethods()) {
                boolean own = c != PraiseLift.class || Modifier.isPrivate(m.getModifiers());
                if (own) {
                    check.due(m + " bears a public name", publicNames.contains(m.getName()) ? 1 : 0, 0);
                }
                boolean isFace = c == PraiseLift.class && m.getName().equals("would");
                check.due(m + " takes at most 7", isFace || m.getParameterCount() <= 7 ? 1 : 0, 1);
            }
            int fields = 0;
            for (Field f : c.getDeclaredFields()) {
                fields += Modifier.isStatic(f.getModifiers()) ? 0 : 1;
                if (Modifier.isStatic(f.getModifiers())) {
                    check.due(f + " is final", Modifier.isFinal(f.getModifiers()) ? 1 : 0, 1);
                }
            }
            check.due(c + " has at most 20 fields", fields <= 20 ? 1 : 0, 1);
            if (c != PraiseLift.class) {
                check.due(c + " is static", Modifier.isStatic(c.getModifiers()) ? 1 : 0, 1);
            }
        }
    }

    private static void fields(Check check) {
        for (Field f : PraiseLift.class.getDeclaredFields()) {
            boolean isFace = f.getName().equals("NONE");
            check.due(f + " is private", isFace || Modifier.isPrivate(f.getModifiers()) ? 1 : 0, 1);
        }
    }
}
