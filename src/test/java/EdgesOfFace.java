import java.lang.reflect.InvocationTargetException;
import java.lang.reflect.Method;
import java.lang.reflect.Modifier;
import java.util.Arrays;
import java.util.List;

/** Boundary cases of the face as a whole: extreme arguments of every call, and the last of 512 calls. */
final class EdgesOfFace {
    private static final int[] EXTREMES = {Integer.MIN_VALUE, -1000, -1, 0, 1, 2, 3, 6, 7, 9, 12, 16, 48, 60, 127, 150, 600, 999, 10000, Integer.MAX_VALUE};
    private static final int CALLS = 512;
    private final Edges e;
    private PraiseLift x = new PraiseLift();
    private int calls = 0;
    private int made = 0;

    EdgesOfFace(Edges e) {
        this.e = e;
    }

    void run() throws IllegalAccessException {
        for (Method m : PraiseLift.class.getDeclaredMethods()) {
            if (Modifier.isPublic(m.getModifiers())) {
                extremes(m);
            }
        }
        lastCalls();
    }

    /** Every pair of extremes at every two places, the other ones being 1: nothing is thrown but what the face tells. */
    private void extremes(Method m) throws IllegalAccessException {
        e.says(Edges.TERMS, "public " + m.getReturnType().getName() + " " + m.getName() + "(");
        int places = m.getParameterCount();
        String wrong = places == 0 ? thrownBeyond(m) : "";
        for (int i = 0; i < places; i++) {
            for (int j = i; j < places; j++) {
                for (int first : EXTREMES) {
                    for (int second : EXTREMES) {
                        Integer[] args = new Integer[places];
                        Arrays.fill(args, 1);
                        args[i] = first;
                        args[j] = second;
                        wrong = wrong.isEmpty() ? thrownBeyond(m, args) : wrong;
                    }
                }
            }
        }
        e.due(m.getName() + " throws nothing but what the face tells " + wrong, wrong.isEmpty() ? 1 : 0, 1);
    }

    private String thrownBeyond(Method m, Object... args) throws IllegalAccessException {
        renewed();
        try {
            m.invoke(x, args);
            return "";
        } catch (InvocationTargetException thrown) {
            Class<?> kind = thrown.getCause().getClass();
            return List.of(m.getExceptionTypes()).contains(kind) ? "" : kind + " by " + Arrays.toString(args);
        }
    }

    /** An object answers 512 calls; settled, busy, empty and full houses take turns. */
    private void renewed() {
        calls++;
        if (calls < 200) {
            return;
        }
        calls = 0;
        made++;
        switch (made % 4) {
            case 0: x = new PraiseLift(); break;
            case 1: x = Edges.settled(); break;
            case 2: x = Edges.busy(); break;
            default: x = Check.housed("floors 12;" + "man 0 60 9;".repeat(7) + "card 20 0;".repeat(8) + "piano 0;"); break;
        }
    }

    private void lastCalls() {
        e.says(Edges.TERMS, "An object is used for at most 512 calls after it has been made");
        PraiseLift refused = new PraiseLift();
        for (int i = 1; i < CALLS; i++) {
            Check.thrown(() -> refused.told(12));
        }
        e.due("the 512th call tells of 511", refused.status(1), 511);
        PraiseLift housed = new PraiseLift();
        for (int i = 1; i < CALLS; i++) {
            housed.house(0);
        }
        e.due("behind 511 houses", housed.told(0), 6);
        PraiseLift kept = Check.housed("man 0 60 0;");
        int left = 0;
        for (int i = 0; i < 250; i++) {
            left += kept.image() * 10 + kept.restore();
        }
        e.due("250 images, each restored", left, 2500);
        PraiseLift worked = Check.housed("man 0 60 0;");
        for (int i = 0; i < 250; i++) {
            left += worked.work(0) * 10 + worked.undo();
        }
        e.due("250 works, each undone", left, 2500);
    }
}
