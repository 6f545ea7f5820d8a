/** Boundary cases of promises 1 to 8: a new object, the tape, the four texts, undo. */
final class EdgesOfTexts {
    private final Edges e;

    EdgesOfTexts(Edges e) {
        this.e = e;
    }

    void run() {
        newObject();
        feedBytes();
        feedFull();
        houseTape();
        houseWipes();
        houseFault();
        houseLength();
        law();
        workAnswers();
        workLength();
        workFull();
        book();
        fault();
        undo();
        undoAndTexts();
    }

    private void newObject() {
        e.says(1, "`PraiseLift()`: A HOUSE without CLAUSES.");
        PraiseLift x = new PraiseLift();
        PraiseLift y = Check.housed("");
        e.due("as by an empty house", Edges.whole(x).equals(Edges.whole(y)) ? 1 : 0, 1);
        int[] told = {6, 0, 0, 0, 0, 0, 0, 0, 100, 0, 0, 0};
        for (int what = 0; what < told.length; what++) {
            e.due("told(" + what + ")", x.told(what), told[what]);
        }
        e.due("no image", x.restore(), -1);
        e.due("no work", x.undo(), -1);
        e.due("no tape", x.count(1), 0);
        e.due("nothing refused", x.status(0) + x.status(1), 0);
    }

    private void feedBytes() {
        e.says(2, "Twenty bytes come on the TAPE, of each number the highest first");
        PraiseLift x = new PraiseLift();
        e.due("feed", x.feed(0x7069616e, 0x6f203233, 0x343b6361, 0x72642039, 0x20383b00), 20);
        e.due("19 bytes", x.house(19), 0);
        e.due("piano 234", x.told(8), 234);
        e.due("card 9 8", x.card(0, 0) * 10 + x.card(0, 1), 98);
        // bytes of 128 and more are no other ones than they are: 0xa0 is no blank, 0xb1 no 1
        for (int high : new int[] {0x80, 0xa0, 0xb1, 0xe1, 0xff}) {
            x.feed(high << 24, 0, 0, 0, 0);
            e.due("byte " + high, x.house(1), -9);
            x.feed(0x20202020 ^ 0x20 ^ high, 0, 0, 0, 0);
            e.due("the 4th byte " + high, x.house(4), -9);
            e.due("its place", x.fault(), 3);
        }
        e.due("all bits", x.feed(-1, -1, -1, -1, -1), 20);
        e.due("the least and the most", x.feed(Integer.MIN_VALUE, Integer.MAX_VALUE, 0, -1, 1), 40);
    }

    private void feedFull() {
        e.says(2, "how many there are; NONE, doing nothing, if there would be more than 600.");
        PraiseLift x = new PraiseLift();
        for (int i = 1; i < 30; i++) {
            e.due("feed " + i, x.feed(0x20202020, 0x20202020, 0x20202020, 0x20202020, 0x20202020), 20 * i);
        }
        // ends with "piano 7;"
        e.due("feed 30", x.feed(0x20202020, 0x20202020, 0x20202020, 0x7069616e, 0x6f20373b), 600);
        e.due("feed 31", x.feed(0x78787878, 0x78787878, 0x78787878, 0x78787878, 0x78787878), -1);
        e.due("feed 32", x.feed(1, 2, 3, 4, 5), -1);
        e.due("600 bytes", x.count(1), 600);
        e.due("nothing refused", x.status(0) + x.status(1), 0);
        e.due("the tape is as it was", x.house(600), 0);
        e.due("piano 7", x.told(8), 7);
        e.due("there is room again", x.feed(0, 0, 0, 0, 0), 20);
    }

    private void houseTape() {
        e.says(3, "The first n bytes of the TAPE (empty then) are the HOUSE");
        PraiseLift x = new PraiseLift();
        Check.feed(x, "piano 7;man 0 1 0;   man 0 1 0;");
        e.due("the first 18 of 40", x.house(18), 1);
        e.due("empty then", x.count(1), 0);
        e.due("nothing is read of an empty tape", x.house(0), 0);
        e.due("no man of it", x.told(1), 0);
        Check.feed(x, "man 0 1 0;man 0 1 0;");
        e.due("0 of 20", x.house(0), 0);
        e.due("empty, too", x.count(1), 0);
        Check.feed(x, "man 0 1 0;man 0 1 0;");
        e.due("20 of 20", x.house(20), 2);
    }

    private void houseWipes() {
        e.says(3, "(no LAW, BOOK, IMAGES, nothing to undo): how many MEN");
        PraiseLift x = Edges.settled();
        e.due("there are works", x.count(2), 2);
        e.due("there is an image", x.count(0), 1);
        e.due("a house", Check.house(x, Edges.HOUSE), 3);
        e.due("no law", x.swells(0, 0), 14);
        e.due("no book", x.told(9), 0);
        e.due("no image", x.count(0), 0);
        e.due("nothing to restore", x.restore(), -1);
        e.due("no work", x.count(2), 0);
        e.due("nothing to undo", x.undo(), -1);
        e.due("as a new one", Edges.whole(x).equals(Edges.whole(Check.housed(Edges.HOUSE))) ? 1 : 0, 1);
        for (int i = 0; i < 3; i++) {
            x.image();
        }
        Check.house(x, "");
        e.due("3 images more", x.image() + x.image() + x.image(), 6);
        e.due("0 men", x.told(1), 0);
        e.due("7 men", Check.house(x, "man 0 1 0;".repeat(7)), 7);
    }

    private void houseFault() {
        e.says(3, "or the FAULT less 10 (all stays).");
        e.fault(Edges.Text.HOUSE, "floors", 1, 6);
        e.fault(Edges.Text.HOUSE, "floors 99;", 2, 7);
        e.fault(Edges.Text.HOUSE, "man 0 1 0;floors 3;", 3, 10);
        // what was read ahead of the fault does not stay either
        e.fault(Edges.Text.HOUSE, "floors 9;piano 1;man 8 1 1;card 2 2;man 0 1;", 1, 43);
        PraiseLift x = Edges.settled();
        Check.house(x, "piano 1;oops");
        e.due("the image can be restored", x.restore(), 0);
        e.due("the work can be undone", x.undo(), 0);
    }

    private void houseLength() {
        e.says(3, "IllegalArgumentException: n is not 0 to the TAPE's bytes (it stays).");
        e.argument("house(-1)", x -> x.house(-1));
        e.argument("house(21) of 20", x -> x.house(21));
        e.argument("house(least)", x -> x.house(Integer.MIN_VALUE));
        e.argument("house(most)", x -> x.house(Integer.MAX_VALUE));
        PraiseLift x = Edges.busy();
        Check.thrown(() -> x.house(21));
        e.due("the tape stays: its night", x.work(6), 1);
        PraiseLift y = new PraiseLift();
        e.due("house(1) of an empty tape (2 IllegalArgumentException)", Check.thrown(() -> y.house(1)), 2);
        e.due("house(0) of an empty tape", y.house(0), 0);
    }

    private void law() {
        e.says(4, "Likewise the LAW (n to 150): 1.");
        e.argument("law(-1)", x -> x.law(-1));
        e.argument("law(21) of 20", x -> x.law(21));
        e.argument("law(151)", x -> x.law(151));
        e.argument("law(least)", x -> x.law(Integer.MIN_VALUE));
        e.argument("law(most)", x -> x.law(Integer.MAX_VALUE));
        PraiseLift x = Edges.settled();
        Check.feed(x, "7" + " ".repeat(159));
        e.due("law(151) of 160 (2 IllegalArgumentException)", Check.thrown(() -> x.law(151)), 2);
        e.due("it stays", x.count(1), 160);
        e.due("law(150) of 160", x.law(150), 1);
        e.due("empty then", x.count(1), 0);
        e.due("by it", x.swells(0, 0), 7);
        Check.feed(x, "98");
        e.due("law(1) of 20", x.law(1), 1);
        e.due("by its first byte", x.swells(0, 0), 9);
        e.due("law(0)", x.law(0), -9);
        e.due("the law stays", x.swells(0, 0), 9);
        e.due("nothing else is wiped", x.count(0) * 10 + x.count(2), 12);
        e.due("nor the book", x.told(9), 1);
        e.fault(Edges.Text.LAW, "oops", 1, 0);
        e.fault(Edges.Text.LAW, "7+1000", 2, 2);
        e.fault(Edges.Text.LAW, "(((((((", 3, 6);
    }

    private void workAnswers() {
        e.says(5, "how many STEPS were done (agains not counted, nor REFUSED ones)");
        e.fine(Edges.Text.WORK, "", 0);
        e.fine(Edges.Text.WORK, "again 5[];", 0);
        e.fine(Edges.Text.WORK, "leave 1;leave 2;", 0);
        e.fine(Edges.Text.WORK, "again 2[again 3[leave 0;enter 0;leave 1;];];", 12);
        e.says(5, "or the FAULT less 10 (none is)");
        e.fault(Edges.Text.WORK, "night;leave 0;oops;", 1, 14);
        e.fault(Edges.Text.WORK, "night;leave 0;enter 3;", 2, 20);
        e.fault(Edges.Text.WORK, "night;" + "again 1[".repeat(7), 3, 54);
    }

    private void workLength() {
        e.says(5, "Likewise WORK (n to 150), which is done");
        e.argument("work(-1)", x -> x.work(-1));
        e.argument("work(21) of 20", x -> x.work(21));
        e.argument("work(151)", x -> x.work(151));
        e.argument("work(least)", x -> x.work(Integer.MIN_VALUE));
        e.argument("work(most)", x -> x.work(Integer.MAX_VALUE));
        PraiseLift x = Edges.settled();
        Check.feed(x, "night;".repeat(26));
        e.due("work(151) of 160 (2 IllegalArgumentException)", Check.thrown(() -> x.work(151)), 2);
        e.due("it stays", x.count(1), 160);
        e.due("work(150) of 160", x.work(150), 25);
        e.due("empty then", x.count(1), 0);
        e.due("work(0)", x.work(0), 0);
        e.due("4 works", x.count(2), 4);
    }

    private void workFull() {
        e.says(5, "-20 ahead of that (nothing is read, there is no FAULT, the TAPE is empty then): 16 WORKS are there that were not undone.");
        PraiseLift x = Edges.settled();
        for (int i = 3; i <= 15; i++) {
            e.due("work " + i, x.work(0), 0);
        }
        e.due("the 16th", Check.work(x, "night;leave 1;"), 1);
        e.due("16 works", x.count(2), 16);
        Check.law(x, "oops");
        String before = Edges.picture(x);
        Check.feed(x, "night;");
        e.due("the 17th", x.work(6), -20);
        e.due("no fault", x.fault(), -1);
        e.due("the tape is empty then", x.count(1), 0);
        e.due("nothing is done", Edges.picture(x).equals(before) ? 1 : 0, 1);
        e.due("no fault is found", Check.work(x, "oops;"), -20);
        e.due("no fault of it", x.fault(), -1);
        e.due("an empty one", x.work(0), -20);
        e.due("still as it was", Edges.picture(x).equals(before) ? 1 : 0, 1);
        e.due("nothing is refused by a throw", x.status(0) + x.status(1), 0);
        Check.feed(x, "night;");
        e.due("n is looked at first (2 IllegalArgumentException)", Check.thrown(() -> x.work(21)), 2);
        e.due("then the tape stays", x.count(1), 20);
        e.due("undone, there is room", x.undo(), 15);
        e.due("for one", x.work(6), 1);
        e.due("not for two", x.work(0), -20);
        e.due("a fault takes no room", faultsWithoutRoom(), 16);
    }

    private static int faultsWithoutRoom() {
        PraiseLift x = Edges.settled();
        for (int i = 0; i < 20; i++) {
            Check.work(x, "oops");
        }
        int done = x.count(2);
        while (x.work(0) == 0) {
            done++;
        }
        return done;
    }

    private void book() {
        e.says(6, "Likewise the BOOK (n to 60): how many lines.");
        e.argument("book(-1)", x -> x.book(-1));
        e.argument("book(21) of 20", x -> x.book(21));
        e.argument("book(61)", x -> x.book(61));
        e.argument("book(least)", x -> x.book(Integer.MIN_VALUE));
        e.argument("book(most)", x -> x.book(Integer.MAX_VALUE));
        PraiseLift x = Edges.settled();
        Check.feed(x, "0 1;2 3;" + " ".repeat(60));
        e.due("book(61) of 80 (2 IllegalArgumentException)", Check.thrown(() -> x.book(61)), 2);
        e.due("it stays", x.count(1), 80);
        e.due("book(60) of 80", x.book(60), 2);
        e.due("empty then", x.count(1), 0);
        e.due("2 lines", x.told(9), 2);
        e.due("book(0)", x.book(0), 0);
        e.due("0 lines", x.told(9), 0);
        e.fault(Edges.Text.BOOK, "0 30;1", 1, 6);
        e.fault(Edges.Text.BOOK, "0 30;1 1000;", 2, 7);
        PraiseLift y = Edges.settled();
        Check.book(y, "0 1;1 2;2 3;");
        Check.book(y, "0 30;1 oops");
        e.due("the lines stay", y.told(9), 3);
        e.due("all of them", y.fits(0), 0);
    }

    private void fault() {
        e.says(7, "The place of the FAULT of the latest text; NONE without.");
        PraiseLift x = new PraiseLift();
        e.due("no text yet", x.fault(), -1);
        e.due("the first byte", Check.house(x, "oops") + x.fault(), -9);
        e.due("none in the next", Check.house(x, Edges.HOUSE) + x.fault(), 2);
        for (Edges.Text kind : Edges.Text.values()) {
            kind.read(x, "   !");
            e.due("in the " + kind, x.fault(), 3);
            x.feed(0, 0, 0, 0, 0);
            e.due("feed leaves it", x.fault(), 3);
            Check.thrown(() -> kind.read(x, 601));
            e.due("a refused text leaves it", x.fault(), 3);
            Check.thrown(() -> x.told(99));
            x.undo();
            x.image();
            x.restore();
            e.due("others leave it", x.fault(), 3);
            Edges.Text.BOOK.read(x, 0);
            e.due("none in the next", x.fault(), -1);
        }
        e.due("the last place of all", Check.house(x, " ".repeat(599) + "!") + x.fault(), 590);
        e.due("at the length", Check.house(x, " ".repeat(599) + "m") + x.fault(), 590);
        e.due("behind the last", Check.house(x, " ".repeat(595) + "piano") + x.fault(), 591);
    }

    private void undo() {
        e.says(8, "The latest WORK that was done is undone: how many are left; -1: there is none.");
        PraiseLift x = Check.housed(Edges.HOUSE);
        e.due("none yet", x.undo(), -1);
        for (int i = 1; i <= 16; i++) {
            Check.work(x, i % 2 == 1 ? "night;say 0 2;walk 2 0;" : "enter 0;say 1 1;go;leave 0;walk 0 0;walk 2 3;");
        }
        for (int left = 15; left >= 0; left--) {
            e.due("left", x.undo(), left);
            e.due("as many can be undone", x.count(2), left);
            e.due("the day", x.told(3), (left + 1) / 2);
        }
        e.due("all is as at first", Edges.whole(x).equals(Edges.whole(Check.housed(Edges.HOUSE))) ? 1 : 0, 1);
        e.due("none left", x.undo(), -1);
        e.due("still none", x.undo(), -1);
        e.due("still as at first", Edges.whole(x).equals(Edges.whole(Check.housed(Edges.HOUSE))) ? 1 : 0, 1);
        e.due("nothing is refused by a throw", x.status(0) + x.status(1), 0);
    }

    private void undoAndTexts() {
        e.says(8, "The latest WORK that was done is undone");
        PraiseLift x = Check.housed(Edges.HOUSE);
        Check.work(x, "night;");
        Check.work(x, "night;oops");
        e.due("a text with a fault was none", x.undo(), 0);
        e.due("the night is undone", x.told(3), 0);
        x.work(0);
        e.due("an empty one was one", x.undo(), 0);
        Check.work(x, "leave 0;");
        e.due("one whose steps were refused was one", x.undo(), 0);
        Check.work(x, "night;");
        x.undo();
        Check.work(x, "night;night;");
        e.due("what was undone is not there any more", x.count(2), 1);
        e.due("only the latest is undone", x.undo(), 0);
        e.due("day 0", x.told(3), 0);
    }
}
