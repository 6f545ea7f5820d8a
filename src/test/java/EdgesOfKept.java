/** Boundary cases of promises 40 to 43: images, refusals, counts. */
final class EdgesOfKept {
    private final Edges e;

    EdgesOfKept(Edges e) {
        this.e = e;
    }

    void run() {
        image();
        imageOfWorks();
        restore();
        restoreLeaves();
        status();
        count();
    }

    private void image() {
        e.says(40, "how many there are; -1: there are 3.");
        PraiseLift x = new PraiseLift();
        e.due("1", x.image(), 1);
        e.due("2", x.image(), 2);
        e.due("3", x.image(), 3);
        e.due("no 4th", x.image(), -1);
        e.due("nor again", x.image(), -1);
        e.due("3 are there", x.count(0), 3);
        e.due("one is gone", x.restore(), 2);
        e.due("a 3rd again", x.image(), 3);
        PraiseLift y = Check.housed(Edges.HOUSE);
        y.image();
        y.image();
        y.image();
        Check.work(y, "night;");
        y.image();
        y.restore();
        e.due("what was no image is not restored", y.told(3), 0);
        e.due("nothing is refused by a throw", x.status(0) + x.status(1), 0);
    }

    private void imageOfWorks() {
        e.says(40, "An IMAGE of all that WORK changes, and of the WORKS that can be undone");
        PraiseLift x = Check.housed(Edges.HOUSE);
        for (int i = 1; i <= 16; i++) {
            Check.work(x, "walk 2 " + i % 5 + ";say 2 1;");
        }
        x.image();
        String full = Edges.picture(x);
        for (int i = 0; i < 16; i++) {
            x.undo();
        }
        x.image();
        for (int i = 0; i < 16; i++) {
            Check.work(x, "night;enter 0;go;");
        }
        e.due("full again", x.work(0), -20);
        e.due("the empty one", x.restore(), 1);
        e.due("nothing to undo", x.undo(), -1);
        e.due("as at first", Edges.picture(x).equals(picture(Check.housed(Edges.HOUSE), x.count(0))) ? 1 : 0, 1);
        e.due("the full one", x.restore(), 0);
        e.due("full again", x.work(0), -20);
        x.image();
        e.due("as it was", Edges.picture(x).equals(withoutRefused(full)) ? 1 : 0, 1);
        for (int left = 15; left >= 0; left--) {
            e.due("undone to", x.undo(), left);
            e.due("where he was", x.man(2, 0), left == 0 ? 2 : left % 5);
        }
    }

    private static String picture(PraiseLift x, int images) {
        for (int i = 0; i < images; i++) {
            x.image();
        }
        return Edges.picture(x);
    }

    /** As behind restore(). */
    private static String withoutRefused(String picture) {
        return picture.replaceFirst("told 10: \\d+", "told 10: 0");
    }

    private void restore() {
        e.says(41, "All is as in the latest IMAGE, which is gone: how many are left; -1: there is none.");
        PraiseLift x = Check.housed(Edges.HOUSE);
        e.due("none", x.restore(), -1);
        String[] pictures = new String[3];
        for (int i = 0; i < 3; i++) {
            Check.work(x, "night;say 0 2;enter 0;enter 1;go;say 1 1;leave 1;walk 2 " + i + ";");
            x.image();
            pictures[i] = Edges.state(x) + x.count(2);
        }
        Check.work(x, "night;night;walk 1 0;walk 2 4;say 2 2;");
        for (int left = 2; left >= 0; left--) {
            e.due("left", x.restore(), left);
            e.due("as many are there", x.count(0), left);
            e.due("all is as in it", (Edges.state(x) + x.count(2)).equals(pictures[left]) ? 1 : 0, 1);
            Check.work(x, "night;walk 1 3;walk 2 4;say 2 2;");
        }
        String before = Edges.whole(x);
        e.due("none left", x.restore(), -1);
        e.due("all stays", Edges.whole(x).equals(before) ? 1 : 0, 1);
        e.due("nothing is refused by a throw", x.status(0) + x.status(1), 0);
    }

    private void restoreLeaves() {
        e.says(41, "All is as in the latest IMAGE");
        PraiseLift x = Check.housed(Edges.HOUSE);
        x.image();
        Check.law(x, "9");
        Check.book(x, "0 1;2 3;");
        Check.work(x, "night;");
        Check.law(x, "1+");
        Check.feed(x, "night;");
        x.restore();
        e.due("no law, for WORK does not change it", x.swells(0, 0), 9);
        e.due("no book", x.told(9), 2);
        e.due("no tape", x.count(1), 20);
        e.due("no fault", x.fault(), 2);
        e.due("the night", x.told(3), 0);
        e.due("its work", x.count(2), 0);
        e.due("no other images", x.image() + x.image(), 3);
    }

    private void status() {
        e.says(42, "How many calls were refused: 0 NoSuchElementException, 1 IllegalArgumentException; NONE for others.");
        PraiseLift x = Edges.busy();
        for (int what : new int[] {-1, 2, 3, Integer.MIN_VALUE, Integer.MAX_VALUE}) {
            e.due("status(" + what + ")", x.status(what), -1);
        }
        e.due("others are not refused", x.status(0) * 10 + x.status(1), 0);
        Check.thrown(() -> x.man(9, 99));
        e.due("one, not two", x.status(0) * 10 + x.status(1), 10);
        Check.thrown(() -> x.heard(9, 9));
        e.due("one more, not two", x.status(0) * 10 + x.status(1), 20);
        Check.thrown(() -> x.would(0, -1, -1, 0, -1, -1, -1, -1, -1));
        e.due("one of the other kind", x.status(0) * 10 + x.status(1), 21);
        Check.thrown(() -> x.house(-1));
        Check.thrown(() -> x.law(-1));
        Check.thrown(() -> x.work(-1));
        Check.thrown(() -> x.book(-1));
        e.due("texts, too", x.status(0) * 10 + x.status(1), 25);
        for (int i = 0; i < 40; i++) {
            x.feed(1, 2, 3, 4, 5);
        }
        x.house(600);
        e.due("NONE and faults are no refusals", x.status(0) * 10 + x.status(1), 25);
        e.says(42, "(No IMAGE keeps it.)");
        x.image();
        Check.thrown(() -> x.told(12));
        x.restore();
        e.due("behind restore()", x.status(0) * 10 + x.status(1), 26);
        x.undo();
        e.due("behind undo()", x.status(0) * 10 + x.status(1), 26);
    }

    private void count() {
        e.says(43, "0 IMAGES, 1 bytes of the TAPE, 2 WORKS that can be undone; NONE for others.");
        PraiseLift x = new PraiseLift();
        e.due("nothing", x.count(0) + x.count(1) + x.count(2), 0);
        for (int what : new int[] {-1, 3, 4, Integer.MIN_VALUE, Integer.MAX_VALUE}) {
            e.due("count(" + what + ")", x.count(what), -1);
        }
        for (int i = 1; i <= 4; i++) {
            x.image();
            e.due("images", x.count(0), Math.min(3, i));
        }
        for (int i = 1; i <= 31; i++) {
            x.feed(0, 0, 0, 0, 0);
            e.due("bytes", x.count(1), Math.min(600, 20 * i));
        }
        for (int i = 1; i <= 17; i++) {
            x.work(0);
            e.due("works", x.count(2), Math.min(16, i));
            e.due("bytes", x.count(1), 0);
        }
        for (int i = 15; i >= -1; i--) {
            x.undo();
            e.due("works", x.count(2), Math.max(0, i));
        }
        e.due("others are not refused", x.status(0) + x.status(1), 0);
    }
}
