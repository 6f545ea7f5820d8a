/** Boundary cases of the HOUSE among the terms. */
final class EdgesOfHouses {
    private static final Edges.Text HOUSE = Edges.Text.HOUSE;
    private final Edges e;

    EdgesOfHouses(Edges e) {
        this.e = e;
    }

    void run() {
        bytes();
        clauses();
        floors();
        floorsAndMen();
        men();
        numbersOfMen();
        cards();
        piano();
    }

    private void bytes() {
        e.says(Edges.TERMS, "A HOUSE is a text of up to 600 bytes");
        PraiseLift x = e.fine(HOUSE, "piano 7;" + " ".repeat(592), 0);
        e.due("piano ahead of 592 blanks", x.told(8), 7);
        x = e.fine(HOUSE, " ".repeat(592) + "piano 8;", 0);
        e.due("piano behind 592 blanks", x.told(8), 8);
        e.fine(HOUSE, "", 0);
        e.fault(HOUSE, " ".repeat(592) + "piano 88", 1, 600);
        e.argument("house(601)", y -> y.house(601));
    }

    private void clauses() {
        e.says(Edges.TERMS, "{ CLAUSE \";\" }, at most 60.");
        PraiseLift x = e.fine(HOUSE, "piano 7;".repeat(59) + "piano 9;", 0);
        e.due("the 60th counts", x.told(8), 9);
        e.fine(HOUSE, "piano 7;".repeat(60) + "   ", 0);
        e.fault(HOUSE, "piano 7;".repeat(61), 3, 480);
        e.fault(HOUSE, "piano 7;".repeat(60) + "  card 1 1;", 3, 482);
        e.fault(HOUSE, "piano 7;".repeat(60) + "floors", 3, 480);
        e.fault(HOUSE, "piano 7;".repeat(60) + "man 99", 3, 480);
    }

    private void floors() {
        e.says(Edges.TERMS, "\"floors\" N (FLOORS 0 to N less 1, N 2 to 12; 6 without;");
        PraiseLift two = e.fine(HOUSE, "floors 2;man 1 1 0;", 1);
        e.due("2 floors", two.told(0), 2);
        e.due("he is at the highest", two.floor(1), 1);
        e.due("no floor 2 (1 NoSuchElementException, 2 IllegalArgumentException)", Check.thrown(() -> two.floor(2)), 2);
        PraiseLift twelve = e.fine(HOUSE, "floors 12;man 11 1 0;", 1);
        e.due("12 floors", twelve.told(0), 12);
        e.due("he is at the highest", twelve.floor(11), 1);
        e.due("no floor 12 (1 NoSuchElementException, 2 IllegalArgumentException)", Check.thrown(() -> twelve.floor(12)), 2);
        e.fault(HOUSE, "floors 0;", 2, 7);
        e.fault(HOUSE, "floors 1;", 2, 7);
        e.fault(HOUSE, "floors 13;", 2, 7);
        e.due("6 without", e.fine(HOUSE, "piano 1;", 0).told(0), 6);
        e.due("6 without a clause", e.fine(HOUSE, "", 0).told(0), 6);
    }

    private void floorsAndMen() {
        e.says(Edges.TERMS, "the last counts, only ahead of men)");
        e.due("the last counts", e.fine(HOUSE, "floors 12;floors 2;floors 3;", 0).told(0), 3);
        e.due("behind cards and a piano", e.fine(HOUSE, "floors 2;card 1 0;piano 1;floors 9;man 8 1 0;", 1).told(0), 9);
        e.fault(HOUSE, "floors 9;floors 2;man 2 1 0;", 2, 22);
        e.fault(HOUSE, "man 0 1 0;floors 6;", 3, 10);
        e.fault(HOUSE, "man 0 1 0;  floors 6;", 3, 12);
        e.fault(HOUSE, "floors 3;man 0 1 0;floors", 3, 19);
        e.fault(HOUSE, "floors 3;man 0 1 0;floors 99;", 3, 19);
    }

    private void men() {
        e.says(Edges.TERMS, "\"man\" F W V (MEN, numbered from 0 on, 7 at most:");
        StringBuilder seven = new StringBuilder();
        for (int m = 0; m < 7; m++) {
            seven.append("man 0 ").append(11 + m).append(" 0;");
        }
        PraiseLift x = e.fine(HOUSE, seven.toString(), 7);
        e.due("7 men", x.told(1), 7);
        for (int m = 0; m < 7; m++) {
            e.due("weight of man " + m, x.man(m, 1), 11 + m);
        }
        e.due("no man 7 (1 NoSuchElementException, 2 IllegalArgumentException)", Check.thrown(() -> x.man(7, 0)), 1);
        e.fault(HOUSE, seven + "man 0 1 0;", 3, 77);
        e.fault(HOUSE, seven + " man", 3, 78);
        e.due("no man at all", e.fine(HOUSE, "card 1 1;", 0).told(1), 0);
    }

    private void numbersOfMen() {
        e.says(Edges.TERMS, "at FLOOR F, WEIGHT W, 1 to 60, VANITY V, 0 to 9)");
        PraiseLift least = e.fine(HOUSE, "man 0 1 0;", 1);
        e.due("least floor", least.man(0, 0), 0);
        e.due("least weight", least.man(0, 1), 1);
        e.due("least vanity", least.man(0, 2), 0);
        PraiseLift most = e.fine(HOUSE, "man 5 60 9;", 1);
        e.due("highest floor", most.man(0, 0), 5);
        e.due("most weight", most.man(0, 1), 60);
        e.due("most vanity", most.man(0, 2), 9);
        e.fault(HOUSE, "man 6 1 0;", 2, 4);
        e.fault(HOUSE, "floors 12;man 12 1 0;", 2, 14);
        e.fault(HOUSE, "floors 2;man 2 1 0;", 2, 13);
        e.fault(HOUSE, "man 0 0 0;", 2, 6);
        e.fault(HOUSE, "man 0 61 0;", 2, 6);
        e.fault(HOUSE, "man 0 60 10;", 2, 9);
        e.fault(HOUSE, "man 6 0 10;", 2, 4);
    }

    private void cards() {
        e.says(Edges.TERMS, "\"card\" P T (CARDS likewise, 8: PRAISE P, 1 to 20, TRUE T, 0 to 9)");
        StringBuilder eight = new StringBuilder();
        for (int c = 0; c < 8; c++) {
            eight.append("card ").append(10 + c).append(" 0;");
        }
        PraiseLift x = e.fine(HOUSE, eight.toString(), 0);
        e.due("8 cards", x.told(2), 8);
        for (int c = 0; c < 8; c++) {
            e.due("praise of card " + c, x.card(c, 0), 10 + c);
        }
        e.due("no card 8 (1 NoSuchElementException, 2 IllegalArgumentException)", Check.thrown(() -> x.card(8, 0)), 1);
        e.fault(HOUSE, eight + "card 1 0;", 3, 80);
        e.fault(HOUSE, eight + " card", 3, 81);
        e.due("no card at all", e.fine(HOUSE, "man 0 1 1;", 1).told(2), 0);
        PraiseLift both = e.fine(HOUSE, "card 1 0;card 20 9;", 0);
        e.due("least praise", both.card(0, 0), 1);
        e.due("least true", both.card(0, 1), 0);
        e.due("most praise", both.card(1, 0), 20);
        e.due("most true", both.card(1, 1), 9);
        e.fault(HOUSE, "card 0 0;", 2, 5);
        e.fault(HOUSE, "card 21 0;", 2, 5);
        e.fault(HOUSE, "card 1 10;", 2, 7);
    }

    private void piano() {
        e.says(Edges.TERMS, "\"piano\" N (0 to 300; 100 without; the last counts)");
        e.due("the least", e.fine(HOUSE, "piano 0;", 0).told(8), 0);
        e.due("the most", e.fine(HOUSE, "piano 300;", 0).told(8), 300);
        e.due("without", e.fine(HOUSE, "floors 3;", 0).told(8), 100);
        e.due("the last", e.fine(HOUSE, "piano 300;man 0 1 1;piano 0;card 1 1;piano 5;", 1).told(8), 5);
        e.fault(HOUSE, "piano 301;", 2, 6);
        e.fault(HOUSE, "piano 301;piano 5;", 2, 6);
    }
}
