import java.util.NoSuchElementException;

/** Counts and prints the calls whose answers are not the ones that are due. */
final class Check {
    interface Call {
        long answer();
    }

    private int asked = 0;
    private int wrong = 0;

    void due(String what, long got, long want) {
        asked++;
        if (got != want) {
            wrong++;
            System.out.println(what + " answered " + got + ", due is " + want);
        }
    }

    void throwsNobody(String what, Call call) {
        due(what + " (1 NoSuchElementException, 2 IllegalArgumentException, 0 nothing)", thrown(call), 1);
    }

    void throwsArgument(String what, Call call) {
        due(what + " (1 NoSuchElementException, 2 IllegalArgumentException, 0 nothing)", thrown(call), 2);
    }

    static int thrown(Call call) {
        try {
            call.answer();
            return 0;
        } catch (NoSuchElementException e) {
            return 1;
        } catch (IllegalArgumentException e) {
            return 2;
        }
    }

    void end(String name) {
        System.out.println(name + ": " + asked + " answers, " + wrong + " wrong");
        if (wrong > 0 || asked == 0) {
            System.exit(1);
        }
    }

    /** Feeds a text, filled up with zeros to whole twenties. */
    static void feed(PraiseLift x, String text) {
        for (int from = 0; from < text.length(); from += 20) {
            int[] five = new int[5];
            for (int i = 0; i < 20; i++) {
                int sign = from + i < text.length() ? text.charAt(from + i) : 0;
                five[i / 4] = five[i / 4] << 8 | sign;
            }
            x.feed(five[0], five[1], five[2], five[3], five[4]);
        }
    }

    static int house(PraiseLift x, String text) {
        feed(x, text);
        return x.house(text.length());
    }

    static int law(PraiseLift x, String text) {
        feed(x, text);
        return x.law(text.length());
    }

    static int work(PraiseLift x, String text) {
        feed(x, text);
        return x.work(text.length());
    }

    static int book(PraiseLift x, String text) {
        feed(x, text);
        return x.book(text.length());
    }

    static PraiseLift housed(String text) {
        PraiseLift x = new PraiseLift();
        house(x, text);
        return x;
    }
}
