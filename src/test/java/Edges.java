import java.io.IOException;
import java.nio.file.Files;
import java.nio.file.Path;
import java.util.ArrayList;
import java.util.List;
import java.util.TreeSet;

/** Sentences of the document that name a boundary case, each with what is due by it. */
final class Edges {
    // all that stands ahead of promise 1: what it is, the public face, the terms
    static final int TERMS = 0;
    static final int PROMISES = 43;
    static final String HOUSE = "floors 5;man 0 30 4;man 0 50 7;man 2 20 0;card 10 5;card 4 9;card 20 1;piano 60;";
    private static final Path DOCUMENT = Path.of("../shared/DOC.md");

    /** The four texts that the tape brings. */
    enum Text {
        HOUSE, LAW, WORK, BOOK;

        int read(PraiseLift x, int n) {
            switch (this) {
                case HOUSE: return x.house(n);
                case LAW: return x.law(n);
                case WORK: return x.work(n);
                default: return x.book(n);
            }
        }

        int read(PraiseLift x, String text) {
            Check.feed(x, text);
            return read(x, text.length());
        }
    }

    interface Asked {
        long on(PraiseLift x);
    }

    interface Ranged {
        long on(PraiseLift x, int value);
    }

    private final Check check = new Check();
    private final List<String> sections = new ArrayList<>();
    private final TreeSet<Integer> told = new TreeSet<>();
    private String sentence = "";
    private int answers = 1;

    Edges() throws IOException {
        String text = oneLine(Files.readString(DOCUMENT));
        sections.add(between(text, "## What it is ", "## Promise 1:"));
        for (int promise = 1; promise <= PROMISES; promise++) {
            sections.add(between(text, "## Promise " + promise + ":", "## "));
        }
    }

    private static String oneLine(String text) {
        return text.replaceAll("\\s+", " ");
    }

    private static String between(String text, String head, String end) {
        int from = text.indexOf(head) + head.length();
        int to = text.indexOf(end, from);
        return text.substring(from, to < 0 ? text.length() : to);
    }

    /** What follows is due by this sentence, which must stand in the document just so. */
    void says(int promise, String quoted) {
        check.due("answers for '" + sentence + "'", answers > 0 ? 1 : 0, 1);
        sentence = quoted;
        answers = 0;
        told.add(promise);
        check.due("'" + quoted + "' stands in " + promise, sections.get(promise).contains(quoted) ? 1 : 0, 1);
    }

    void due(String what, long got, long want) {
        answers++;
        check.due("'" + sentence + "': " + what, got, want);
    }

    void end(String name) {
        says(TERMS, "");
        answers = 1;
        for (int promise = 1; promise <= PROMISES; promise++) {
            check.due("a sentence of promise " + promise, told.contains(promise) ? 1 : 0, 1);
        }
        check.end(name);
    }

    // ---- refused calls ----

    /** Something of all: a law, a book, works with refused steps, an image, a fault. */
    static PraiseLift settled() {
        PraiseLift x = Check.housed(HOUSE);
        Check.law(x, "praise + vanity - heard * 3");
        Check.book(x, "1 50;");
        Check.work(x, "enter 0;enter 2;say 0 2;enter 1;go;");
        x.image();
        Check.work(x, "leave 1;leave 1;say 2 0;");
        Check.law(x, "1+");
        return x;
    }

    /** Settled, with a tape of 20 bytes. */
    static PraiseLift busy() {
        PraiseLift x = settled();
        Check.feed(x, "night;");
        return x;
    }

    /** What WORK changes: the day, the lift, the bell, where the men are, how proud, what they heard. */
    static String state(PraiseLift x) {
        StringBuilder all = new StringBuilder();
        for (int what = 3; what <= 7; what++) {
            all.append(x.told(what)).append(' ');
        }
        for (int m = 0; m < x.told(1); m++) {
            for (int what = 0; what <= 7; what++) {
                all.append(x.man(m, what)).append(' ');
            }
            for (int c = 0; c < x.told(2); c++) {
                all.append(x.heard(m, c)).append(' ');
            }
        }
        return all.toString();
    }

    /** The state with the house, the law, the book, what was refused, and how many images and works there are. */
    static String picture(PraiseLift x) {
        StringBuilder all = new StringBuilder(state(x));
        for (int what : new int[] {0, 1, 2, 8, 9, 10, 11}) {
            all.append("told ").append(what).append(": ").append(x.told(what)).append(' ');
        }
        for (int m = 0; m < x.told(1); m++) {
            for (int c = 0; c < x.told(2); c++) {
                all.append(x.swells(m, c)).append(' ');
            }
        }
        all.append(x.fits(0)).append(' ').append(x.fits(1)).append(' ').append(x.would(7, 1, 2, 3, 4, 1, 6, 7, 5));
        return all.append(' ').append(x.count(0)).append(' ').append(x.count(2)).toString();
    }

    /** The picture with the tape and the fault. */
    static String whole(PraiseLift x) {
        return picture(x) + " tape " + x.count(1) + " fault " + x.fault();
    }

    void argument(String what, Asked call) {
        refused(what, call, 2);
    }

    void nobody(String what, Asked call) {
        refused(what, call, 1);
    }

    /** 1 NoSuchElementException, 2 IllegalArgumentException: thrown, counted once, and nothing else changes. */
    private void refused(String what, Asked call, int kind) {
        PraiseLift x = busy();
        String before = whole(x);
        due(what + " throws (1 NoSuchElementException, 2 IllegalArgumentException, 0 nothing)", Check.thrown(() -> call.on(x)), kind);
        due(what + ": status(0)", x.status(0), kind == 1 ? 1 : 0);
        due(what + ": status(1)", x.status(1), kind == 2 ? 1 : 0);
        due(what + " leaves all", whole(x).equals(before) ? 1 : 0, 1);
    }

    void rangeOfArgument(String what, int least, int most, Ranged call) {
        range(what, least, most, call, 2);
    }

    void rangeOfNobody(String what, int least, int most, Ranged call) {
        range(what, least, most, call, 1);
    }

    private void range(String what, int least, int most, Ranged call, int kind) {
        answered(what + " " + least, x -> call.on(x, least));
        answered(what + " " + most, x -> call.on(x, most));
        for (int wrong : new int[] {least - 1, most + 1, Integer.MIN_VALUE, Integer.MAX_VALUE}) {
            refused(what + " " + wrong, x -> call.on(x, wrong), kind);
        }
    }

    /** Not refused, and nothing stays changed by having asked. */
    void answered(String what, Asked call) {
        PraiseLift x = busy();
        String before = whole(x);
        due(what + " throws nothing", Check.thrown(() -> call.on(x)), 0);
        due(what + " leaves all", whole(x).equals(before) ? 1 : 0, 1);
    }

    // ---- texts ----

    /** A text with a fault of this kind at this place: told so, the tape empty then, and all stays. */
    void fault(Text kind, String text, int fault, int place) {
        PraiseLift x = settled();
        String before = picture(x);
        String name = kind + " '" + text + "'";
        due(name, kind.read(x, text), fault - 10);
        due("the place in " + name, x.fault(), place);
        due("the tape behind " + name, x.count(1), 0);
        due("all stays by " + name, picture(x).equals(before) ? 1 : 0, 1);
    }

    /** A text without a fault, read in the settled house: what it answers. */
    PraiseLift fine(Text kind, String text, int answer) {
        PraiseLift x = settled();
        String name = kind + " '" + text + "'";
        due(name, kind.read(x, text), answer);
        due("no fault in " + name, x.fault(), -1);
        due("the tape behind " + name, x.count(1), 0);
        return x;
    }
}
