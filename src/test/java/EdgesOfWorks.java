/** Boundary cases of WORK among the terms: its text, its steps, and how the lift goes. */
final class EdgesOfWorks {
    private static final Edges.Text WORK = Edges.Text.WORK;
    private final Edges e;

    EdgesOfWorks(Edges e) {
        this.e = e;
    }

    void run() {
        bytes();
        again();
        open();
        first();
        refused();
        twoHundred();
        twoHundredAgains();
        enter();
        leave();
        say();
        insult();
        go();
        walk();
        night();
        goesUp();
        goesDown();
    }

    private void bytes() {
        e.says(Edges.TERMS, "WORK is a text of up to 150 bytes");
        PraiseLift x = e.fine(WORK, "night;".repeat(25), 25);
        e.due("25 days", x.told(3), 25);
        e.fine(WORK, " ".repeat(144) + "night;", 1);
        e.fine(WORK, "night;" + " ".repeat(144), 1);
        e.fine(WORK, "", 0);
        e.fine(WORK, "go;".repeat(50), 50);
        PraiseLift y = Edges.settled();
        Check.feed(y, "night;".repeat(26));
        e.due("work(151) of 160 bytes (2 IllegalArgumentException)", Check.thrown(() -> y.work(151)), 2);
        e.due("the tape stays", y.count(1), 160);
        e.due("nothing is done", y.told(3), 0);
    }

    private void again() {
        e.says(Edges.TERMS, "(N 0 to 30)");
        e.due("0 times", e.fine(WORK, "again 0[night;];", 0).told(3), 0);
        e.due("once", e.fine(WORK, "again 1[night;];", 1).told(3), 1);
        e.due("30 times", e.fine(WORK, "again 30[night;];", 30).told(3), 30);
        e.fine(WORK, "again 30[];", 0);
        e.fault(WORK, "again 31[night;];", 2, 6);
        e.fault(WORK, "again 0[again 31[];];", 2, 14);
        e.fault(WORK, "again 0[enter 3;];", 2, 14);
        e.fault(WORK, "again 0[oops;];", 1, 8);
    }

    private void open() {
        e.says(Edges.TERMS, "or a 7th of ( least most again that is open at one time");
        e.due("6 open", e.fine(WORK, "again 1[".repeat(6) + "night;" + "];".repeat(6), 1).told(3), 1);
        e.fault(WORK, "again 1[".repeat(7) + "night;" + "];".repeat(7), 3, 48);
        e.fault(WORK, "again 1[".repeat(6) + "  again", 3, 50);
        e.fault(WORK, "again 1[".repeat(6) + "go;again 31[", 3, 51);
        e.due("those that are closed are not open", e.fine(WORK, "again 1[again 1[night;];];".repeat(4), 4).told(3), 4);
        e.fine(WORK, "again 1[".repeat(5) + "again 0[];again 0[];" + "];".repeat(5), 0);
    }

    private void first() {
        e.says(Edges.TERMS, "It is DAY 0 at first, the lift is at FLOOR 0, empty, nobody heard anything, has PRIDE, rode; the BELL did not ring.");
        PraiseLift x = Edges.settled();
        Check.work(x, "night;say 0 2;");
        Check.house(x, Edges.HOUSE);
        for (int what : new int[] {3, 4, 5, 6, 7, 10, 11}) {
            e.due("told(" + what + ")", x.told(what), 0);
        }
        for (int m = 0; m < 3; m++) {
            e.due("pride of man " + m, x.man(m, 3), 0);
            e.due("rides of man " + m, x.man(m, 6), 0);
            for (int c = 0; c < 3; c++) {
                e.due("heard by man " + m, x.heard(m, c), 0);
            }
        }
    }

    private void refused() {
        e.says(Edges.TERMS, "one that can't be done is REFUSED, and changes nothing");
        PraiseLift x = Edges.settled();
        Check.work(x, "again 9[say 1 0;];");
        String[] steps = {"enter 0", "enter 2", "leave 1", "leave 2", "say 1 0", "walk 0 0", "walk 1 4", "walk 2 2"};
        for (String step : steps) {
            refusedIn(x, step);
        }
        PraiseLift y = Check.housed(Edges.HOUSE);
        for (String step : new String[] {"go", "insult 0", "enter 2", "leave 0"}) {
            refusedIn(y, step);
        }
    }

    private void refusedIn(PraiseLift x, String step) {
        String before = Edges.state(x);
        e.due(step + " is not done", Check.work(x, step + ";"), 0);
        e.due(step + " is refused", x.told(10), 1);
        e.due(step + " changes nothing", Edges.state(x).equals(before) ? 1 : 0, 1);
        e.due(step + " is a work all the same", x.undo() >= 0 ? 1 : 0, 1);
        e.due("undone, nothing is changed", Edges.state(x).equals(before) ? 1 : 0, 1);
    }

    private void twoHundred() {
        e.says(Edges.TERMS, "200 STEPS at most are begun by one WORK");
        String body = "again 28[" + "night;".repeat(7) + "];";
        e.due("197 begun", e.fine(WORK, body, 196).told(3), 196);
        e.due("200 begun", e.fine(WORK, body + "night;".repeat(3), 199).told(3), 199);
        e.due("the 201st is left out", e.fine(WORK, body + "night;".repeat(4), 199).told(3), 199);
        PraiseLift x = e.fine(WORK, body + "night;".repeat(3) + "leave 0;", 199);
        e.due("what is left out is not refused", x.told(10), 0);
        x = e.fine(WORK, body + "night;".repeat(2) + "leave 0;leave 1;", 198);
        e.due("the 200th is begun, and refused", x.told(10), 1);
        e.due("each work begins anew", Check.work(x, "night;"), 1);
        e.says(Edges.TERMS, "REFUSED ones, too)");
        x = e.fine(WORK, "again 28[" + "leave 1;".repeat(7) + "];leave 1;leave 1;leave 1;night;", 0);
        e.due("199 refused", x.told(10), 199);
        e.due("the night is left out", x.told(3), 0);
        x = e.fine(WORK, "again 28[" + "leave 1;".repeat(7) + "];leave 1;leave 1;night;night;", 1);
        e.due("198 refused", x.told(10), 198);
        e.due("one night is begun", x.told(3), 1);
    }

    private void twoHundredAgains() {
        e.says(Edges.TERMS, "(an again, too, each time it is come to;");
        String body = "again 28[" + "again 0[];".repeat(7) + "];";
        e.due("197 agains, 3 nights", e.fine(WORK, body + "night;night;night;", 3).told(3), 3);
        e.due("the 4th night is left out", e.fine(WORK, body + "night;night;night;night;", 3).told(3), 3);
        // 1, then 31 for each of 6 rounds, 1 and 12 of the 7th
        e.due("left out in the midst", e.fine(WORK, "again 30[again 30[night;];];night;", 192).told(3), 192);
        PraiseLift x = e.fine(WORK, body + "again 0[];again 0[];again 1[night;];", 0);
        e.due("an again as the 200th has nothing left", x.told(3), 0);
        e.due("agains are not refused", x.told(10), 0);
    }

    private void enter() {
        e.says(Edges.TERMS, "enter: M is in the lift (REFUSED, if he is, is not at its FLOOR, or 4 are in it).");
        PraiseLift x = Check.housed("floors 3;man 0 9 0;man 0 9 0;man 0 9 0;man 0 9 0;man 0 9 0;man 1 9 0;piano 36;");
        e.due("he is", Check.work(x, "enter 0;enter 0;"), 1);
        e.due("not at its floor", Check.work(x, "enter 5;"), 0);
        e.due("4 of 5", Check.work(x, "enter 1;enter 2;enter 3;enter 4;"), 3);
        e.due("those 4", x.told(5), 15);
        e.due("one leaves: there is room", Check.work(x, "leave 2;enter 4;enter 2;"), 2);
        e.due("these 4", x.told(5), 27);
        PraiseLift y = Check.housed("floors 3;man 0 60 0;man 1 9 0;piano 59;");
        e.due("it comes to his floor", Check.work(y, "enter 1;enter 0;go;enter 1;"), 3);
    }

    private void leave() {
        e.says(Edges.TERMS, "leave: he is not any more, but at its FLOOR (REFUSED, if he is not in it).");
        PraiseLift x = Check.housed("floors 3;man 0 9 0;man 0 9 0;piano 0;");
        e.due("nobody is in it", Check.work(x, "leave 0;"), 0);
        e.due("he is not, the other one is", Check.work(x, "enter 1;go;leave 0;"), 2);
        e.due("he stays where he is", x.man(0, 0), 0);
        e.due("once", Check.work(x, "leave 1;leave 1;"), 1);
        e.due("at its floor", x.floor(1), 2);
    }

    private void say() {
        e.says(Edges.TERMS, "say: PRIDE of M is more by SWELLS (900 at most), as ahead of it");
        PraiseLift x = Check.housed("man 0 1 0;card 1 0;card 1 0;card 1 0;");
        Check.law(x, "39");
        Check.work(x, "again 9[say 0 0;say 0 1;];again 5[say 0 2;];");
        e.due("23 words of 39", x.man(0, 3), 897);
        Check.law(x, "3");
        e.due("just 900", Check.work(x, "say 0 2;"), 1);
        e.due("900", x.man(0, 3), 900);
        Check.law(x, "1");
        e.due("said all the same", Check.work(x, "say 0 2;"), 1);
        e.due("not 901", x.man(0, 3), 900);
        e.due("heard all the same", x.heard(0, 2), 7);
        x.undo();
        x.undo();
        Check.law(x, "40");
        Check.work(x, "say 0 2;");
        e.due("from 897 no further", x.man(0, 3), 900);
        PraiseLift y = Check.housed("man 0 1 0;card 1 0;");
        Check.law(y, "heard+pride+1");
        Check.work(y, "say 0 0;say 0 0;");
        e.due("1, then 1 and 1 and 1: as ahead of it", y.man(0, 3), 4);
        e.says(Edges.TERMS, "was it a LIE (TRUE less than his VANITY), the BELL rang once more (REFUSED, if he heard C 9 times).");
        PraiseLift z = Check.housed("man 0 1 5;man 0 1 4;card 1 4;card 1 5;");
        Check.work(z, "say 0 0;");
        e.due("4 is less than 5", z.told(7), 1);
        Check.work(z, "say 0 1;say 1 0;say 1 1;");
        e.due("alike is no lie", z.told(7), 1);
        e.due("the 9th is said", Check.work(z, "again 9[say 0 0;];"), 8);
        e.due("the 10th is refused", z.told(10), 1);
        e.due("and does not ring", z.told(7), 9);
        e.due("another card can be said", Check.work(z, "say 0 1;"), 1);
        e.due("to another man it can be said", Check.work(z, "say 1 0;"), 1);
        e.due("a night later it can be said", Check.work(z, "night;say 0 0;"), 2);
    }

    private void insult() {
        e.says(Edges.TERMS, "the lift is at the highest FLOOR, with all in it (REFUSED, if he has no PRIDE).");
        PraiseLift x = Check.housed("floors 12;man 0 9 0;man 0 9 0;man 0 9 0;card 1 0;piano 300;");
        e.due("no pride", Check.work(x, "enter 0;insult 0;"), 1);
        e.due("the lift stays", x.told(4), 0);
        e.due("pride 1", Check.work(x, "enter 1;say 0 0;insult 0;"), 3);
        e.due("the highest floor", x.told(4), 11);
        e.due("with all in it", x.man(1, 0), 11);
        e.due("not the others", x.man(2, 0), 0);
        e.due("no pride any more", Check.work(x, "insult 0;"), 0);
        e.due("outside: only the pride", Check.work(x, "go;say 2 0;insult 2;"), 3);
        e.due("where it went", x.told(4), 0);
        Check.law(x, "1");
        e.due("already at the highest", Check.work(x, "say 0 0;insult 0;say 0 0;insult 0;") + x.told(4), 15);
    }

    private void go() {
        e.says(Edges.TERMS, "go (REFUSED, if nobody is in it): the lift goes as below, each MAN in it rode once more.");
        PraiseLift x = Check.housed("floors 3;man 0 9 0;man 0 9 0;man 1 9 0;piano 300;");
        e.due("nobody is in it", Check.work(x, "go;"), 0);
        e.due("one is, the lift can't go down", Check.work(x, "enter 0;go;"), 2);
        e.due("it stays", x.told(4), 0);
        e.due("he rode all the same", x.man(0, 6), 1);
        e.due("both", Check.work(x, "enter 1;go;leave 0;go;leave 1;go;"), 5);
        e.due("twice", x.man(0, 6), 2);
        e.due("twice", x.man(1, 6), 2);
        e.due("never", x.man(2, 6), 0);
    }

    private void walk() {
        e.says(Edges.TERMS, "walk: M is at FLOOR F (REFUSED, if he is in the lift, or there).");
        PraiseLift x = Check.housed("floors 12;man 0 9 0;man 11 9 0;piano 9;");
        e.due("there", Check.work(x, "walk 0 0;walk 1 11;"), 0);
        e.due("to the highest and the lowest", Check.work(x, "walk 0 11;walk 1 0;"), 2);
        e.due("he is at 11", x.man(0, 0), 11);
        e.due("he is at 0", x.man(1, 0), 0);
        e.due("in the lift", Check.work(x, "enter 1;walk 1 5;walk 1 0;"), 1);
        e.due("the lift does not go", x.told(4), 0);
    }

    private void night() {
        e.says(Edges.TERMS, "night (REFUSED from DAY 400 on): each PRIDE is half (cut) of it; all who are in the lift leave it;"
                + " nobody has heard anything; DAY is one more.");
        PraiseLift x = Check.housed("man 0 9 0;man 0 9 0;card 1 0;card 2 0;piano 9;");
        e.due("halves of 1 and 2", Check.work(x, "say 0 0;say 1 1;enter 0;enter 1;night;"), 5);
        e.due("half of 1", x.man(0, 3), 0);
        e.due("half of 2", x.man(1, 3), 1);
        e.due("nobody is in it", x.told(5), 0);
        e.due("nothing heard", x.heard(0, 0) + x.heard(1, 1), 0);
        String nights = "again 30[again 6[night;];];";
        e.due("28 rounds of 6 nights, and 2 of the next", Check.work(x, nights), 170);
        e.due("and again", Check.work(x, nights), 170);
        e.due("day 341", x.told(3), 341);
        e.due("to day 399", Check.work(x, "again 29[night;];again 29[night;];"), 58);
        e.due("399", x.told(3), 399);
        Check.work(x, "enter 0;say 0 0;");
        e.due("day 399 has a night", Check.work(x, "night;"), 1);
        e.due("400", x.told(3), 400);
        Check.work(x, "enter 0;say 0 1;");
        e.due("day 400 has none", Check.work(x, "night;night;"), 0);
        e.due("2 refused", x.told(10), 2);
        e.due("he is still in it", x.told(5), 1);
        e.due("still heard", x.heard(0, 1), 1);
        e.due("still proud", x.man(0, 3), 2);
        e.due("still 400", x.told(3), 400);
        x.undo();
        x.undo();
        x.undo();
        e.due("399 again", x.told(3), 399);
        e.due("a night again", Check.work(x, "night;"), 1);
    }

    /** A man of 30 who stands at floor 0, and the lift with him. */
    private static PraiseLift lightest(int piano) {
        PraiseLift x = Check.housed("floors 12;man 0 30 0;card 1 0;piano " + piano + ";");
        Check.work(x, "enter 0;");
        return x;
    }

    private void goesUp() {
        e.says(Edges.TERMS, "is the LOAD more than the piano, the lift goes up by a tenth (cut) of how much more, and 1");
        int[][] up = {{29, 1}, {21, 1}, {20, 2}, {11, 2}, {10, 3}, {1, 3}, {0, 4}};
        for (int[] row : up) {
            PraiseLift x = lightest(row[0]);
            e.due("would go against " + row[0], x.told(11), row[1]);
            Check.work(x, "go;");
            e.due("went against " + row[0], x.told(4), row[1]);
        }
        e.says(Edges.TERMS, "as far as there are FLOORS");
        PraiseLift x = lightest(0);
        e.due("4, 8, 11, 11", Check.work(x, "go;go;"), 2);
        e.due("at 8", x.told(4), 8);
        e.due("to the highest", Check.work(x, "go;") + x.told(4), 12);
        e.due("no further", Check.work(x, "go;") + x.told(4), 12);
    }

    private void goesDown() {
        e.says(Edges.TERMS, "is it less, down likewise");
        int[][] down = {{31, 10}, {39, 10}, {40, 9}, {49, 9}, {50, 8}, {129, 1}, {130, 0}, {139, 0}, {140, 0}, {300, 0}};
        for (int[] row : down) {
            PraiseLift x = lightest(row[0]);
            Check.work(x, "say 0 0;insult 0;");
            e.due("at the highest", x.told(4), 11);
            Check.work(x, "go;");
            e.due("down against " + row[0], x.told(4), row[1]);
        }
        e.says(Edges.TERMS, "alike: it stays.");
        PraiseLift x = lightest(30);
        e.due("it stays at 0", Check.work(x, "go;") + x.told(4), 1);
        e.due("he rode", x.man(0, 6), 1);
        Check.work(x, "say 0 0;insult 0;");
        e.due("it stays at 11", Check.work(x, "go;") + x.told(4), 12);
    }
}
