/** Boundary cases of promises 15 to 25: what would be, and what is best. */
final class EdgesOfAsked {
    private final Edges e;
    private final PraiseLift streaks = new PraiseLift();

    EdgesOfAsked(Edges e) {
        this.e = e;
    }

    void run() {
        nothingStays();
        aheadGoes();
        aheadNights();
        to();
        toWhom();
        toEnds();
        rides();
        couple();
        meet();
        cheapest();
        cheapestHeard();
        fits();
        fitsHeard();
        look();
        streak();
        flatter();
        breath();
        breathBounds();
    }

    private void nothingStays() {
        e.says(Edges.TERMS, "Asked, nothing stays changed");
        e.answered("rides", PraiseLift::rides);
        e.answered("waiting", PraiseLift::waiting);
        e.answered("lacks", PraiseLift::lacks);
        e.answered("vacant", PraiseLift::vacant);
        e.answered("fault", PraiseLift::fault);
        e.answered("times", x -> x.times(2, 1, 999));
        e.answered("ahead", x -> x.ahead(99, 0) + x.ahead(99, 1) + x.ahead(99, 2));
        e.answered("week", x -> x.week(5, 16, 48, 0));
        e.answered("span", x -> x.span(5, 10, 9, 48, 2, 2));
        PraiseLift x = Edges.busy();
        int week = x.week(5, 9, 9, 3);
        x.span(-5, 10, 16, 48, 0, 1);
        x.times(0, 0, 999);
        e.due("the same week again", x.week(5, 9, 9, 3), week);
    }

    private void aheadGoes() {
        e.says(15, "Where the lift would be behind n (0 to 99) goes, nothing else being done (what 0)");
        e.rangeOfArgument("ahead n", 0, 99, (x, n) -> x.ahead(n, 0));
        e.rangeOfArgument("ahead what", 0, 2, (x, what) -> x.ahead(1, what));
        e.argument("ahead(100, 3)", x -> x.ahead(100, 3));
        PraiseLift x = Check.housed("floors 12;man 0 20 0;piano 19;");
        e.due("nobody is in it", x.ahead(99, 0), 0);
        Check.work(x, "enter 0;");
        int[][] want = {{0, 0}, {1, 1}, {10, 10}, {11, 11}, {12, 11}, {99, 11}};
        for (int[] row : want) {
            e.due("ahead " + row[0], x.ahead(row[0], 0), row[1]);
        }
        Check.work(x, "go;go;leave 0;");
        e.due("nobody is in it, at 2", x.ahead(99, 0), 2);
        PraiseLift y = Check.housed("floors 12;man 0 20 0;card 1 0;piano 20;");
        Check.work(y, "enter 0;say 0 0;insult 0;");
        e.due("alike, at 11", y.ahead(99, 0), 11);
        PraiseLift z = Check.housed("floors 12;man 0 20 0;card 1 0;piano 21;");
        Check.work(z, "enter 0;say 0 0;insult 0;");
        e.due("down 10", z.ahead(10, 0), 1);
        e.due("down 11", z.ahead(11, 0), 0);
        e.due("down 12", z.ahead(12, 0), 0);
    }

    private void aheadNights() {
        e.says(15, "the LOAD behind n nights (what 1: of those who are in it now, were they to stay), all PRIDE together then (what 2).");
        PraiseLift x = Check.housed("man 0 10 0;man 0 20 0;man 0 30 0;card 3 0;card 7 0;card 1 0;");
        Check.work(x, "say 0 0;say 1 1;say 2 2;enter 0;enter 2;");
        int[] load = {44, 41, 40, 40};
        int[] pride = {11, 4, 1, 0};
        for (int n = 0; n < load.length; n++) {
            e.due("load behind " + n, x.ahead(n, 1), load[n]);
            e.due("pride behind " + n, x.ahead(n, 2), pride[n]);
        }
        e.due("load behind 99", x.ahead(99, 1), 40);
        e.due("pride behind 99", x.ahead(99, 2), 0);
        e.due("nobody is in it", Check.housed("man 0 10 0;").ahead(5, 1), 0);
        e.due("no men", new PraiseLift().ahead(99, 1) + new PraiseLift().ahead(99, 2), 0);
        e.says(Edges.TERMS, "DAYS go by as by night (beyond 400, too).");
        PraiseLift y = lateHouse("man 0 10 0;card 20 0;");
        Check.work(y, "say 0 0;enter 0;");
        e.due("day 400", y.told(3), 400);
        e.due("no night can be", Check.work(y, "night;"), 0);
        e.due("load behind 1", y.ahead(1, 1), 20);
        e.due("pride behind 2", y.ahead(2, 2), 5);
        e.due("a week goes by", y.week(1, 0, 1, 3) > 0 ? 1 : 0, 1);
        e.due("still day 400", y.told(3), 400);
    }

    /** The house at day 400. */
    static PraiseLift lateHouse(String house) {
        PraiseLift x = Check.housed(house);
        for (int i = 0; i < 3; i++) {
            Check.work(x, "again 30[again 30[night;];];");
        }
        return x;
    }

    private void to() {
        e.says(16, "TO of a FLOOR (0 to FLOORS less 1), as bits (0: it would by none).");
        e.rangeOfArgument("to of 5:", 0, 4, PraiseLift::to);
        PraiseLift two = Check.housed("floors 2;");
        e.due("to(1) of 2", two.to(1), -1);
        e.due("to(2) of 2 (2 IllegalArgumentException)", Check.thrown(() -> two.to(2)), 2);
        e.says(Edges.TERMS, "NONE (also with nobody in it).");
        PraiseLift x = Check.housed("floors 12;man 0 10 0;man 0 10 0;card 5 0;card 5 0;card 10 0;piano 10;");
        for (int f = 0; f < 12; f++) {
            e.due("nobody in it, to " + f, x.to(f), -1);
        }
        e.says(Edges.TERMS, "that of fewest CARDS by which, the LOAD being so much more (SWELLS of all as now, together), the lift would go just to that"
                + " FLOOR; of as few the least bits");
        Check.work(x, "enter 0;");
        // by 0; by 5 the first of two; by 10 one card, not two of 5; by 20 all three
        int[] want = {0, 1, 4, 7, -1, -1, -1, -1, -1, -1, -1, -1};
        for (int f = 0; f < 12; f++) {
            e.due("to " + f, x.to(f), want[f]);
        }
        PraiseLift y = Check.housed("floors 12;man 0 10 0;" + "card 5 0;".repeat(8) + "piano 10;");
        Check.work(y, "enter 0;");
        e.due("two of eight: the least bits", y.to(2), 3);
        e.due("all but one of eight", y.to(4), 63);
        e.due("all eight are 40", y.to(5), 255);
        e.due("not further", y.to(6), -1);
    }

    private void toWhom() {
        e.says(Edges.TERMS, "each said once to that MAN in the lift, who did not hear it 9 times, to whom it SWELLS most"
                + " (as now; of alike ones the first; none such: it can't be in the set)");
        PraiseLift x = Check.housed("floors 12;man 0 10 0;man 0 10 0;man 0 60 0;card 1 0;card 1 0;piano 20;");
        Check.law(x, "man*10+5");
        Check.work(x, "enter 0;enter 1;");
        toIs(x, "15 of man 1 each", 0, -1, 1, -1, 3);
        hear(x, "again 8[say 1 0;];");
        toIs(x, "heard 8 times", 0, -1, 1, -1, 3);
        hear(x, "say 1 0;");
        toIs(x, "heard 9 times: card 0 is 5 of man 0", 0, 1, 2, 3, -1);
        hear(x, "again 9[say 0 0;];");
        toIs(x, "card 0 can't be in the set", 0, -1, 2, -1, -1);
        hear(x, "again 9[say 0 1;say 1 1;];");
        toIs(x, "no card can", 0, -1, -1, -1, -1);
        hear(x, "night;enter 0;enter 1;");
        toIs(x, "behind a night all can", 0, -1, 1, -1, 3);
        PraiseLift high = Check.housed("floors 3;man 0 20 0;card 1 0;card 1 0;piano 20;");
        Check.work(high, "say 0 1;enter 0;insult 0;");
        hear(high, "again 9[say 0 0;];");
        toIs(high, "what can't be said takes nothing away", -1, -1, 0);
        hear(high, "again 9[say 0 1;];");
        toIs(high, "nor do two", -1, -1, 0);
    }

    /** What is said by a law of 0 is heard, and makes nobody heavier. */
    private static void hear(PraiseLift x, String work) {
        Check.law(x, "0");
        Check.work(x, work);
        Check.law(x, "man*10+5");
    }

    private void toIs(PraiseLift x, String what, int... want) {
        for (int f = 0; f < want.length; f++) {
            e.due(what + ", to " + f, x.to(f), want[f]);
        }
    }

    private void toEnds() {
        e.says(16, "(0: it would by none)");
        PraiseLift low = Check.housed("floors 3;man 0 10 0;card 20 0;card 9 0;card 1 0;piano 30;");
        Check.work(low, "enter 0;");
        toIs(low, "down from the lowest it stays; 20 and 9 are 9 more, all are 10 more", 0, 3, 7);
        PraiseLift high = Check.housed("floors 3;man 0 60 0;card 20 0;piano 0;");
        Check.work(high, "enter 0;");
        toIs(high, "no further than the highest", -1, -1, 0);
        PraiseLift bare = Check.housed("floors 3;man 0 30 0;piano 29;");
        Check.work(bare, "enter 0;");
        toIs(bare, "without cards", -1, 0, -1);
    }

    private void rides() {
        e.says(17, "RIDES.");
        e.due("no men", new PraiseLift().rides(), 0);
        e.due("no men, no piano", Check.housed("piano 0;").rides(), 0);
        e.says(Edges.TERMS, "none in two, 4 at most in each) that are each HEAVY together more than the piano.");
        int[][] want = {{0, 7}, {59, 7}, {60, 3}, {119, 3}, {120, 2}, {179, 2}, {180, 1}, {239, 1}, {240, 0}, {300, 0}};
        for (int[] row : want) {
            PraiseLift x = Check.housed("man 0 60 0;".repeat(7) + "piano " + row[0] + ";");
            e.due("7 of 60 against " + row[0], x.rides(), row[1]);
        }
        e.due("one alike", Check.housed("man 0 9 0;piano 9;").rides(), 0);
        e.due("one above", Check.housed("man 0 9 0;piano 8;").rides(), 1);
        // 9 with 2, 8 with 3, 7 with 4: the greedy 9 with 8 would leave one
        e.due("who goes with whom", Check.housed("man 0 9 0;man 0 8 0;man 0 7 0;man 0 4 0;man 0 3 0;man 0 2 0;piano 10;").rides(), 3);
        e.says(Edges.TERMS, "(in the lift or not, wherever;");
        PraiseLift y = Check.housed("floors 12;man 0 9 0;man 11 9 0;card 1 0;piano 18;");
        e.due("alike", y.rides(), 0);
        Check.work(y, "enter 0;say 1 0;");
        e.due("1 above, one in the lift, one at 11", y.rides(), 1);
    }

    private void couple() {
        e.says(18, "COUPLE: 0 the two (10 times the lesser, and the other one), 1 how far apart; NONE both: there are not two.");
        e.rangeOfArgument("couple", 0, 1, PraiseLift::couple);
        for (String house : new String[] {"", "man 0 60 0;"}) {
            e.due("not two", Check.housed(house).couple(0), -1);
            e.due("not two apart", Check.housed(house).couple(1), -1);
        }
        coupleIs("man 0 50 0;man 0 50 0;piano 100;", 1, 0);
        coupleIs("man 0 1 0;man 0 1 0;piano 300;", 1, 298);
        coupleIs("man 0 60 0;man 0 60 0;piano 0;", 1, 120);
        coupleIs("man 0 1 0;".repeat(5) + "man 0 55 0;man 0 60 0;piano 115;", 56, 0);
        coupleIs("man 0 1 0;man 0 2 0;man 0 3 0;man 0 40 0;man 0 5 0;man 0 55 0;man 0 7 0;piano 96;", 35, 1);
        e.says(Edges.TERMS, "the two MEN (the lesser first) who are HEAVY together least apart from the piano; of alike ones the first.");
        coupleIs("man 0 10 0;".repeat(7) + "piano 20;", 1, 0);
        // 10 below and 10 above are alike
        coupleIs("man 0 10 0;man 0 20 0;man 0 40 0;piano 40;", 1, 10);
        coupleIs("man 0 40 0;man 0 20 0;man 0 10 0;piano 40;", 2, 10);
        coupleIs("man 0 10 0;man 0 20 0;man 0 40 0;piano 41;", 2, 9);
        PraiseLift x = Check.housed("man 0 10 0;man 0 20 0;man 0 40 0;card 20 0;piano 39;");
        e.due("9 below", x.couple(0) * 100 + x.couple(1), 109);
        Check.work(x, "say 0 0;");
        e.due("by pride 11 above, the other two 21", x.couple(0) * 100 + x.couple(1), 111);
    }

    private void coupleIs(String house, int two, int apart) {
        PraiseLift x = Check.housed(house);
        e.due("couple of " + house, x.couple(0), two);
        e.due("apart of " + house, x.couple(1), apart);
    }

    private void meet() {
        e.says(19, "MEET: 0 the FLOOR, 1 how many FLOORS all have to walk together (0, 0 without MEN).");
        e.rangeOfArgument("meet", 0, 1, PraiseLift::meet);
        meetIs("", 0, 0);
        meetIs("floors 12;card 1 1;", 0, 0);
        meetIs("floors 12;man 11 1 0;", 11, 0);
        meetIs("floors 12;" + "man 11 1 0;".repeat(7), 11, 0);
        meetIs("floors 12;" + "man 0 1 0;".repeat(6) + "man 11 1 0;", 0, 11);
        e.says(Edges.TERMS, "of alike ones the lowest.");
        meetIs("floors 12;man 1 1 0;man 4 1 0;", 1, 3);
        meetIs("floors 12;man 11 1 0;man 0 1 0;", 0, 11);
        meetIs("floors 12;man 9 1 0;man 2 1 0;man 5 1 0;man 7 1 0;", 5, 9);
        PraiseLift x = Check.housed("floors 12;man 0 60 0;man 0 60 0;man 11 1 0;piano 0;");
        Check.work(x, "enter 0;enter 1;go;");
        e.due("in the lift they are where it is", x.meet(0) * 100 + x.meet(1), 1100);
    }

    private void meetIs(String house, int floor, int far) {
        PraiseLift x = Check.housed(house);
        e.due("meet in " + house, x.meet(0), floor);
        e.due("to walk in " + house, x.meet(1), far);
    }

    private void cheapest() {
        e.says(20, "CHEAPEST of a MAN.");
        e.rangeOfNobody("cheapest", 0, 2, PraiseLift::cheapest);
        e.due("without cards", Check.housed("man 0 60 0;piano 0;").cheapest(0), -1);
        PraiseLift none = new PraiseLift();
        e.due("without men (1 NoSuchElementException)", Check.thrown(() -> none.cheapest(0)), 1);
        e.says(Edges.TERMS, "the LOAD would come above the piano");
        String cards = "card 9 0;card 20 0;card 10 0;card 11 0;card 11 0;";
        e.due("by 11, not by 10", Check.housed("man 0 50 0;" + cards + "piano 60;").cheapest(0), 3);
        e.due("by 20 alone", Check.housed("man 0 50 0;" + cards + "piano 69;").cheapest(0), 1);
        e.due("not by 20", Check.housed("man 0 50 0;" + cards + "piano 70;").cheapest(0), -1);
        e.due("above without: the least of all", Check.housed("man 0 50 0;" + cards + "piano 0;").cheapest(0), 0);
        e.says(Edges.TERMS, "he being in the lift with those who are there (whether he is, or could be)");
        PraiseLift x = Check.housed("floors 3;" + "man 0 10 0;".repeat(5) + "man 2 10 0;" + cards + "piano 60;");
        Check.work(x, "enter 0;enter 1;enter 2;enter 3;");
        e.due("one of them: 40 and 20 are not above", x.cheapest(0), -1);
        e.due("the lift is full", x.cheapest(4), 3);
        e.due("he is elsewhere", x.cheapest(5), 3);
        Check.work(x, "leave 0;");
        e.due("with three", x.cheapest(4), -1);
    }

    private void cheapestHeard() {
        e.says(Edges.TERMS, "(none he heard 9 times)");
        PraiseLift x = Check.housed("man 0 50 0;man 0 50 0;card 9 0;card 20 0;card 10 0;card 11 0;card 11 0;piano 60;");
        Check.law(x, "0");
        e.due("by 0 it is not above", x.cheapest(0), -1);
        Check.work(x, "again 8[say 0 3;];");
        Check.law(x, "praise");
        e.due("8 times", x.cheapest(0), 3);
        Check.law(x, "0");
        Check.work(x, "say 0 3;");
        Check.law(x, "praise");
        e.due("9 times: the other 11", x.cheapest(0), 4);
        e.due("the other man did not hear it", x.cheapest(1), 3);
        Check.law(x, "0");
        Check.work(x, "again 9[say 0 4;say 0 1;];");
        Check.law(x, "praise");
        e.due("none is left", x.cheapest(0), -1);
        e.says(Edges.TERMS, "of all such that which SWELLS least; of alike ones the first; NONE.");
        e.due("the first of alike ones", Check.housed("man 0 50 0;card 20 0;card 12 0;card 11 9;card 11 0;piano 60;").cheapest(0), 2);
        e.due("by 0 above the piano", Check.housed("man 0 60 0;card 20 0;card 5 0;card 5 0;piano 59;").cheapest(0), 1);
    }

    private void fits() {
        e.says(21, "FITS: 0 how many, 1 the first (10 times the MAN, and the CARD; NONE).");
        e.rangeOfArgument("fits", 0, 1, PraiseLift::fits);
        fitsIs(new PraiseLift(), "without men and cards", 0, -1);
        fitsIs(Check.housed("man 0 1 0;"), "without cards", 0, -1);
        fitsIs(Check.housed("card 1 0;"), "without men", 0, -1);
        fitsIs(Check.housed("man 0 1 0;".repeat(7) + "card 1 0;".repeat(8)), "without lines: all", 56, 0);
        PraiseLift x = Check.housed("man 0 1 0;".repeat(7) + "card 1 0;".repeat(7) + "card 2 0;");
        Check.book(x, "6 3;");
        fitsIs(x, "the very last", 1, 67);
        e.says(Edges.TERMS, "all lines are right: how many, the first (by MAN, then CARD).");
        PraiseLift y = Check.housed("man 0 10 0;man 0 10 0;card 5 0;card 5 0;");
        bookFits(y, "0 10;", 2, 10);
        bookFits(y, "1 15;", 2, 10);
        bookFits(y, "1 10;", 2, 0);
        bookFits(y, "1 10;0 15;", 2, 0);
        bookFits(y, "0 15;1 15;", 0, -1);
        bookFits(y, "0 10;1 10;", 0, -1);
        bookFits(y, "0 0;", 0, -1);
        bookFits(y, "0 999;", 0, -1);
        bookFits(y, "", 4, 0);
    }

    private void bookFits(PraiseLift x, String book, int many, int first) {
        Check.book(x, book);
        fitsIs(x, book, many, first);
    }

    private void fitsIs(PraiseLift x, String what, int many, int first) {
        e.due("fits: " + what, x.fits(0), many);
        e.due("the first: " + what, x.fits(1), first);
    }

    private void fitsHeard() {
        e.says(Edges.TERMS, "had that CARD been said to him once more now (heard 9 times or not)");
        PraiseLift x = Check.housed("man 0 10 0;card 20 0;card 3 0;");
        Check.work(x, "again 9[say 0 0;];insult 0;");
        bookFits(x, "0 12;", 1, 0);
        bookFits(x, "0 13;", 1, 1);
        PraiseLift y = Check.housed("man 0 60 0;card 1 0;card 2 0;card 3 0;");
        Check.law(y, "40");
        Check.work(y, "again 9[say 0 0;say 0 1;say 0 2;];");
        bookFits(y, "0 960;", 3, 0);
        bookFits(y, "0 999;", 0, -1);
        PraiseLift z = AtPride.of(899);
        bookFits(z, "0 960;", 3, 0);
        bookFits(z, "0 961;", 0, -1);
        Check.law(z, "0");
        bookFits(z, "0 959;", 3, 0);
    }

    /** A man of 60 with so much pride (up to 900). */
    private static final class AtPride {
        static PraiseLift of(int pride) {
            PraiseLift x = Check.housed("man 0 60 0;card 1 0;card 2 0;card 3 0;");
            Check.law(x, "40");
            for (int left = pride / 40; left > 0; left -= 8) {
                Check.work(x, "again " + Math.min(8, left) + "[say 0 " + (left - 1) / 8 % 3 + ";];");
            }
            Check.law(x, "" + pride % 40);
            Check.work(x, "say 0 2;");
            Check.law(x, "40");
            return x;
        }
    }

    private void look() {
        e.says(22, "LOOK: 0 the MAN, 1 how many are left at the worst; NONE both: all are in lines, or there are none.");
        e.rangeOfArgument("look", 0, 1, PraiseLift::look);
        lookIs(new PraiseLift(), "no men", -1, -1);
        lookIs(Check.housed("card 1 0;"), "no men, a card", -1, -1);
        PraiseLift x = Check.housed("man 0 10 0;man 0 10 0;card 5 0;card 5 0;card 6 0;");
        bookLook(x, "0 10;1 10;", -1, -1);
        bookLook(x, "1 15;0 10;", -1, -1);
        e.says(Edges.TERMS, "LOOK: the MAN in no line by whom, however HEAVY, fewest such pairs are left at the worst, of these the first.");
        // of each man: 15 15 16, or 10 by the other one's three
        bookLook(x, "", 0, 3);
        bookLook(x, "0 10;", 1, 2);
        bookLook(x, "1 10;", 0, 2);
        bookLook(x, "0 16;", 1, 1);
        bookLook(x, "0 999;", 1, 0);
        lookIs(Check.housed("man 0 1 0;"), "no cards: none is left", 0, 0);
        Check.law(x, "0");
        bookLook(x, "", 0, 6);
        Check.law(x, "praise*man");
        bookLook(x, "", 1, 3);
        PraiseLift most = Check.housed("man 0 1 0;".repeat(7) + "card 1 0;".repeat(8));
        lookIs(most, "all 7 men, 8 cards", 0, 48);
    }

    private void bookLook(PraiseLift x, String book, int man, int left) {
        Check.book(x, book);
        lookIs(x, book, man, left);
    }

    private void lookIs(PraiseLift x, String what, int man, int left) {
        e.due("look: " + what, x.look(0), man);
        e.due("left at the worst: " + what, x.look(1), left);
    }

    private void streak() {
        e.says(23, "STREAK of n (0 to 12), k (1 to 12), q (0 to 16): above (part 0), below (part 1), in least terms.");
        e.rangeOfArgument("streak n", 0, 12, (x, n) -> x.streak(n, 1, 1, 0));
        e.rangeOfArgument("streak k", 1, 12, (x, k) -> x.streak(1, k, 1, 0));
        e.rangeOfArgument("streak q", 0, 16, (x, q) -> x.streak(1, 1, q, 0));
        e.rangeOfArgument("streak part", 0, 1, (x, part) -> x.streak(1, 1, 1, part));
        streakIs(0, 1, 16, 1, 1);
        streakIs(0, 12, 0, 1, 1);
        streakIs(1, 1, 0, 1, 1);
        streakIs(1, 1, 16, 0, 1);
        streakIs(1, 1, 1, 15, 16);
        streakIs(1, 1, 15, 1, 16);
        streakIs(1, 1, 8, 1, 2);
        streakIs(1, 2, 16, 1, 1);
        streakIs(12, 12, 16, 0, 1);
        streakIs(11, 12, 16, 1, 1);
        streakIs(12, 1, 0, 1, 1);
        streakIs(12, 1, 15, 1, 281474976710656L);
        streakIs(12, 1, 1, 129746337890625L, 281474976710656L);
        streakIs(12, 12, 15, 281474976710656L - 129746337890625L, 281474976710656L);
        streakIs(12, 12, 1, 281474976710655L, 281474976710656L);
        streakIs(12, 11, 8, 4093, 4096);
        streakIs(2, 2, 12, 7, 16);
    }

    /** By one object, so that nothing of one streak is left in the next. */
    private void streakIs(int n, int k, int q, long above, long below) {
        PraiseLift x = streaks;
        e.due("streak(" + n + ", " + k + ", " + q + ", 0)", x.streak(n, k, q, 0), above);
        e.due("streak(" + n + ", " + k + ", " + q + ", 1)", x.streak(n, k, q, 1), below);
    }

    private void flatter() {
        e.says(24, "FLATTER of two by v, w (0 to 99): 0 how many RESTS, 1 the first (10 times what the one does, 0 he flatters, 1 not, and the other one;"
                + " NONE), 2 what both have by it together (0 without).");
        e.rangeOfArgument("flatter v", 0, 99, (x, v) -> x.flatter(v, 1, 0));
        e.rangeOfArgument("flatter w", 0, 99, (x, w) -> x.flatter(1, w, 0));
        e.rangeOfArgument("flatter what", 0, 2, (x, what) -> x.flatter(1, 1, what));
        e.says(Edges.TERMS, "RESTS: neither would have more by the other thing.");
        int[][] want = {{0, 0, 4, 0, 0}, {99, 0, 4, 0, 198}, {1, 0, 4, 0, 2}, {0, 1, 1, 11, 0}, {99, 1, 1, 11, 0}, {99, 99, 1, 11, 0}, {0, 99, 1, 11, 0}};
        PraiseLift x = new PraiseLift();
        for (int[] row : want) {
            for (int what = 0; what <= 2; what++) {
                e.due("flatter(" + row[0] + ", " + row[1] + ", " + what + ")", x.flatter(row[0], row[1], what), row[2 + what]);
            }
        }
    }

    private void breath() {
        e.says(25, "What a MAN gets of n (0 to 9,999) by BREATH among told MEN (0, if he is none of them). IllegalArgumentException: bits of no MEN.");
        e.rangeOfNobody("breath man", 0, 2, (x, m) -> x.breath(m, 7, 5));
        e.rangeOfArgument("breath men", 0, 7, (x, men) -> x.breath(0, men, 5));
        e.rangeOfArgument("breath n", 0, 9999, (x, n) -> x.breath(0, 7, n));
        e.nobody("breath(3, 8, -1)", x -> x.breath(3, 8, -1));
        e.argument("breath(0, 9, 5)", x -> x.breath(0, 9, 5));
        e.argument("breath(1, 8, 5): he is none of them, and one is none", x -> x.breath(1, 8, 5));
        PraiseLift x = Edges.settled();
        e.due("he is none of them", x.breath(0, 6, 99), 0);
        e.due("nobody is told", x.breath(0, 0, 99), 0);
        e.due("himself alone", x.breath(0, 1, 9999), 24);
        e.due("he has no pride", x.breath(1, 7, 9999), 0);
        PraiseLift seven = Check.housed("man 0 1 0;".repeat(7) + "card 7 0;");
        Check.work(seven, "say 0 0;say 6 0;");
        e.due("all seven", seven.breath(6, 127, 9), 4);
        e.due("128: nobody (2 IllegalArgumentException)", Check.thrown(() -> seven.breath(6, 128, 9)), 2);
    }

    private void breathBounds() {
        e.says(Edges.TERMS, "levelled: no more than that each, no more than a bound, the greatest by which no more than n are given (all, if they are no more).");
        PraiseLift x = Check.housed("man 0 1 0;man 0 1 0;man 0 1 0;man 0 1 0;card 5 0;card 12 0;card 20 0;");
        Check.work(x, "say 0 0;say 1 1;say 2 2;");
        // prides 5 12 20 0: bounds 0, 1, 4, 5, 6, 12, 13, 19, and all
        int[][] want = {{0, 0, 0, 0}, {2, 0, 0, 0}, {3, 1, 1, 1}, {14, 4, 4, 4}, {15, 5, 5, 5}, {16, 5, 5, 5}, {17, 5, 6, 6}, {28, 5, 11, 11},
            {29, 5, 12, 12}, {30, 5, 12, 13}, {36, 5, 12, 19}, {37, 5, 12, 20}, {9999, 5, 12, 20}};
        for (int[] row : want) {
            for (int m = 0; m < 3; m++) {
                e.due("breath(" + m + ", 15, " + row[0] + ")", x.breath(m, 15, row[0]), row[1 + m]);
            }
            e.due("breath(3, 15, " + row[0] + ")", x.breath(3, 15, row[0]), 0);
        }
        PraiseLift full = AtPride.of(900);
        for (int n : new int[] {0, 1, 511, 512, 899, 900}) {
            e.due("900 by " + n, full.breath(0, 1, n), n);
        }
        e.due("900 by 901", full.breath(0, 1, 901), 900);
        e.due("900 by 9999", full.breath(0, 1, 9999), 900);
    }
}
