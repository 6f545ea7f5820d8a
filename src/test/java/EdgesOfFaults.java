/** Boundary cases of the BOOK among the terms, and of what all texts have: numbers, words, blanks, faults. */
final class EdgesOfFaults {
    private static final Edges.Text HOUSE = Edges.Text.HOUSE;
    private static final Edges.Text LAW = Edges.Text.LAW;
    private static final Edges.Text WORK = Edges.Text.WORK;
    private static final Edges.Text BOOK = Edges.Text.BOOK;
    private final Edges e;

    EdgesOfFaults(Edges e) {
        this.e = e;
    }

    void run() {
        bookBytes();
        bookLines();
        numbers();
        words();
        blanks();
        firstFromTheLeft();
        cannotStand();
        everyByteInHouses();
        everyByteInLaws();
        endsTooEarly();
        noSuchNumbers();
        tooMany();
        ofOneTheLeast();
    }

    private void bookBytes() {
        e.says(Edges.TERMS, "A BOOK is one of up to 60 bytes");
        e.fine(BOOK, "", 0);
        e.fine(BOOK, " ".repeat(56) + "0 7;", 1);
        e.fine(BOOK, "0 7;" + " ".repeat(56), 1);
        e.fine(BOOK, "0 " + "0".repeat(57) + ";", 1);
        PraiseLift x = Edges.settled();
        Check.feed(x, " ".repeat(80));
        e.due("book(61) of 80 bytes (2 IllegalArgumentException)", Check.thrown(() -> x.book(61)), 2);
        e.due("the tape stays", x.count(1), 80);
    }

    private void bookLines() {
        e.says(Edges.TERMS, "no M twice: MAN M is HEAVY N (0 to 999).");
        PraiseLift x = e.fine(BOOK, "0 0;2 999;", 2);
        e.due("2 lines", x.told(9), 2);
        e.fine(BOOK, "2 1;1 1;0 1;", 3);
        e.fault(BOOK, "0 1000;", 2, 2);
        e.fault(BOOK, "3 1;", 2, 0);
        e.fault(BOOK, "0 1;0 1;", 2, 4);
        e.fault(BOOK, "0 1;1 1;2 1;  1 1;", 2, 14);
        e.fault(BOOK, "0 1;000 1;", 2, 4);
        PraiseLift none = new PraiseLift();
        e.due("no men: an empty book", Check.book(none, " "), 0);
        e.due("no men: no line", Check.book(none, "0 1;"), -8);
        e.due("no men: its place", none.fault(), 0);
        PraiseLift seven = Check.housed("man 0 1 0;".repeat(7));
        e.due("7 lines", Check.book(seven, "6 1;5 1;4 1;3 1;2 1;1 1;0 1;"), 7);
        e.due("no man 7", Check.book(seven, "7 1;"), -8);
    }

    private void numbers() {
        e.says(Edges.TERMS, "Numbers: digits, as many as stand there");
        e.due("zeros ahead", e.fine(HOUSE, "piano 0000000000300;", 0).told(8), 300);
        e.due("500 zeros ahead", e.fine(HOUSE, "piano " + "0".repeat(500) + "7;", 0).told(8), 7);
        e.fault(HOUSE, "piano 0000000000301;", 2, 6);
        e.fault(HOUSE, "piano 4294967296;", 2, 6);
        e.fault(HOUSE, "piano 18446744073709551616;", 2, 6);
        e.fault(HOUSE, "piano " + "9".repeat(500) + ";", 2, 6);
        e.fault(HOUSE, "piano 1" + "0".repeat(500) + ";", 2, 6);
        e.fine(WORK, "enter 000001;", 1);
        e.fault(WORK, "enter 4294967297;", 2, 6);
        e.fault(WORK, "again 4294967296[];", 2, 6);
        e.fault(BOOK, "4294967296 1;", 2, 0);
        e.fault(BOOK, "0 4294967296;", 2, 2);
    }

    private void words() {
        e.says(Edges.TERMS, "WORDS: small letters, as many as stand there");
        e.due("no blank between a word and a number", e.fine(HOUSE, "piano7;", 0).told(8), 7);
        e.fault(HOUSE, "pian 7;", 1, 0);
        e.fault(HOUSE, "pianos 7;", 1, 0);
        e.fault(HOUSE, "pianoman 7;", 1, 0);
        e.fault(HOUSE, "Piano 7;", 1, 0);
        e.fault(HOUSE, "pianO 7;", 1, 0);
        e.fault(HOUSE, "pia no 7;", 1, 0);
        e.fault(LAW, "praisetrue", 1, 0);
        e.fault(LAW, "leastt[1,2]", 1, 0);
        e.fault(LAW, "mos[1,2]", 1, 0);
        e.fault(WORK, "gos;", 1, 0);
        e.fault(WORK, "g;", 1, 0);
        e.fault(WORK, "gogo;", 1, 0);
        e.fault(WORK, "nightgo;", 1, 0);
        // words of one text are none of another
        e.fault(HOUSE, "enter 0;", 1, 0);
        e.fault(HOUSE, "law;", 1, 0);
        e.fault(LAW, "card", 1, 0);
        e.fault(WORK, "man 0 1 0;", 1, 0);
        e.fault(BOOK, "man 0 1;", 1, 0);
    }

    private void blanks() {
        e.says(Edges.TERMS, "blanks (32) may stand ahead of all these, and at the end.");
        PraiseLift x = e.fine(HOUSE, "  floors  5  ;  man  4  60  9  ;  card  20  9  ;  piano  300  ;  ", 1);
        e.due("all were read", x.told(0) + x.man(0, 0) + x.card(0, 0) + x.told(8), 5 + 4 + 20 + 300);
        x = e.fine(LAW, "  (  1  +  least  [  2  *  3  ,  most  [  4  ,  5  ]  ]  )  -  0  /  1  %  2  ", 1);
        e.due("1 and 5", x.would(1, 0, 0, 1, 0, 0, 0, 0, 0), 6);
        e.fine(WORK, "  enter  1  ;  say  0  0  ;  again  2  [  go  ;  night  ;  ]  ;  walk  0  0  ;  insult  0  ;  leave  0  ;  ", 7);
        e.fine(BOOK, "  0  1  ;  1  2  ;  ", 2);
        for (char white : new char[] {9, 10, 11, 12, 13, 160}) {
            e.fault(HOUSE, "piano" + white + "7;", 1, 5);
            e.fault(LAW, "7" + white, 1, 1);
            e.fault(WORK, white + "go;", 1, 0);
            e.fault(BOOK, "0" + white + "1;", 1, 1);
        }
    }

    private void firstFromTheLeft() {
        e.says(Edges.TERMS, "FAULTS, the first from the left, at its first byte");
        e.fault(HOUSE, "piano 999;oops;", 2, 6);
        e.fault(HOUSE, "oops;piano 999;", 1, 0);
        e.fault(HOUSE, "man 9 99 99;", 2, 4);
        e.fault(HOUSE, "man 0 99 99;", 2, 6);
        e.fault(HOUSE, "man 0 1 99 99;", 2, 8);
        e.fault(HOUSE, "man 0 1 0;floors 99;oops", 3, 10);
        e.fault(LAW, "1000+(((((((1", 2, 0);
        e.fault(LAW, "(((((((1000", 3, 6);
        e.fault(LAW, "1+oops+1000", 1, 2);
        e.fault(WORK, "enter 9;oops;", 2, 6);
        e.fault(WORK, "say 9 9;", 2, 4);
        e.fault(WORK, "walk 0 99 99", 2, 7);
        e.fault(WORK, "again 99 oops", 2, 6);
        e.fault(BOOK, "9 9999;", 2, 0);
        e.fault(BOOK, "0 1;0 9999", 2, 4);
    }

    private void cannotStand() {
        e.says(Edges.TERMS, "1 what can't stand there");
        e.fault(HOUSE, ";", 1, 0);
        e.fault(HOUSE, "piano 7;;", 1, 8);
        e.fault(HOUSE, "7", 1, 0);
        e.fault(HOUSE, "piano 7 7;", 1, 8);
        e.fault(HOUSE, "piano;", 1, 5);
        e.fault(HOUSE, "piano -7;", 1, 6);
        e.fault(HOUSE, "piano man;", 1, 6);
        e.fault(HOUSE, "man 0 1;", 1, 7);
        e.fault(HOUSE, "card 1,0;", 1, 6);
        e.fault(LAW, "+1", 1, 0);
        e.fault(LAW, "-1", 1, 0);
        e.fault(LAW, "1--1", 1, 2);
        e.fault(LAW, "()", 1, 1);
        e.fault(LAW, "[1]", 1, 0);
        e.fault(LAW, "least(1,2)", 1, 5);
        e.fault(LAW, "least[1;2]", 1, 7);
        e.fault(LAW, "least[1,2)", 1, 9);
        e.fault(LAW, "(1]", 1, 2);
        e.fault(WORK, ";", 1, 0);
        e.fault(WORK, "go;]", 1, 3);
        e.fault(WORK, "go 0;", 1, 3);
        e.fault(WORK, "enter 0 0;", 1, 8);
        e.fault(WORK, "say 0;", 1, 5);
        e.fault(WORK, "again 1(go;);", 1, 7);
        e.fault(WORK, "again 1[go];", 1, 10);
        e.fault(WORK, "again 1[;];", 1, 8);
        e.fault(WORK, "again [];", 1, 6);
        e.fault(BOOK, ";", 1, 0);
        e.fault(BOOK, "0;", 1, 1);
        e.fault(BOOK, "0 1 2;", 1, 4);
        e.fault(BOOK, "0 1;;", 1, 4);
    }

    private void everyByteInHouses() {
        e.says(Edges.TERMS, "1 what can't stand there");
        for (int b = 0; b < 256; b++) {
            char sign = (char) b;
            boolean digit = b >= '0' && b <= '9';
            boolean letter = b >= 'a' && b <= 'z';
            byteIn("piano 7;" + sign, b == ' ' ? -1 : 8);
            byteIn("piano 7" + sign + ";", digit || b == ' ' ? -1 : b == ';' ? 8 : 7);
            byteIn("piano" + sign + "7;", digit || b == ' ' ? -1 : letter ? 0 : 5);
        }
    }

    private void byteIn(String text, int place) {
        PraiseLift x = new PraiseLift();
        e.due("house '" + text + "'", Check.house(x, text), place < 0 ? 0 : -9);
        e.due("the place in '" + text + "'", x.fault(), place);
    }

    private void everyByteInLaws() {
        e.says(Edges.TERMS, "1 what can't stand there");
        for (int b = 0; b < 256; b++) {
            boolean fine = b >= '0' && b <= '9' || "+-*/%".indexOf(b) >= 0;
            PraiseLift x = new PraiseLift();
            String text = "7" + (char) b + "5";
            e.due("law '" + text + "'", Check.law(x, text), fine ? 1 : -9);
            e.due("the place in '" + text + "'", x.fault(), fine ? -1 : b == ' ' ? 2 : 1);
        }
    }

    private void endsTooEarly() {
        e.says(Edges.TERMS, "(at the length, if the text ends too early)");
        early(HOUSE, "floors", "floors 3", "man", "man 0", "man 0 1", "man 0 1 0", "card", "card 1", "card 1 0", "piano", "piano 1", "piano 1;man");
        early(LAW, "", "1+", "1-", "1*", "1/", "1%", "(", "(1", "(1+", "least", "least[", "least[1", "least[1,", "least[1,2", "most", "most[", "most[1,2");
        early(WORK, "enter", "enter 0", "leave", "leave 0", "say", "say 0", "say 0 0", "insult", "insult 0", "go", "walk", "walk 0", "walk 0 1",
                "night", "again", "again 1", "again 1[", "again 1[go", "again 1[go;", "again 1[go;]", "again 0[again 0[];");
        early(BOOK, "0", "0 1", "0 1;1");
    }

    private void early(Edges.Text kind, String... texts) {
        for (String text : texts) {
            e.fault(kind, text, 1, text.length());
            e.fault(kind, text + "   ", 1, text.length() + 3);
        }
        // what stands on the tape behind the length is not read
        PraiseLift x = Edges.settled();
        String cut = texts[texts.length - 1];
        Check.feed(x, cut + ";];];1;1];1)");
        e.due("cut at " + cut.length(), kind.read(x, cut.length()), -9);
        e.due("its place", x.fault(), cut.length());
    }

    private void noSuchNumbers() {
        e.says(Edges.TERMS, "2 a number that is none such (an M twice in a BOOK)");
        for (String step : new String[] {"enter 3;", "leave 3;", "insult 3;", "say 3 0;", "walk 3 0;"}) {
            e.fault(WORK, step, 2, step.indexOf('3'));
        }
        e.fault(WORK, "say 2 3;", 2, 6);
        e.fault(WORK, "walk 2 5;", 2, 7);
        e.fault(BOOK, "2 1;2 1;", 2, 4);
        PraiseLift none = new PraiseLift();
        for (String step : new String[] {"enter 0;", "leave 0;", "insult 0;", "say 0 0;", "walk 0 0;"}) {
            e.due("without men " + step, Check.work(none, step), -8);
            e.due("its place", none.fault(), step.indexOf('0'));
        }
        PraiseLift noCards = Check.housed("man 0 1 0;");
        e.due("without cards", Check.work(noCards, "say 0 0;"), -8);
        e.due("its place", noCards.fault(), 6);
        PraiseLift most = Check.housed("floors 12;" + "man 0 1 0;".repeat(7) + "card 1 0;".repeat(8));
        e.due("the last of all", Check.work(most, "say 6 7;walk 6 11;"), 2);
        e.due("no man 7", Check.work(most, "say 7 0;"), -8);
        e.due("no card 8", Check.work(most, "say 0 8;"), -8);
        e.due("no floor 12", Check.work(most, "walk 0 12;"), -8);
    }

    private void tooMany() {
        e.says(Edges.TERMS, "3 a CLAUSE, MAN or CARD too many, floors behind a man (all at their word)");
        e.fault(HOUSE, "piano 7;".repeat(60) + "   piano 7;", 3, 483);
        e.fault(HOUSE, "man 0 1 0;".repeat(7) + "   man 0 1 0;", 3, 73);
        e.fault(HOUSE, "card 1 0;".repeat(8) + "   card 1 0;", 3, 75);
        e.fault(HOUSE, "man 0 1 0;   floors 3;", 3, 13);
        // a piano and the other one are not too many where men or cards are full
        e.fine(HOUSE, "man 0 1 0;".repeat(7) + "card 1 0;".repeat(8) + "piano 7;", 7);
    }

    private void ofOneTheLeast() {
        e.says(Edges.TERMS, "of one the least.");
        e.fault(HOUSE, "piano 7;".repeat(60) + "pianos 7;", 1, 480);
        e.fault(HOUSE, "piano 7;".repeat(60) + ";", 1, 480);
        e.fault(HOUSE, "piano 7;".repeat(60) + "7", 1, 480);
        e.fault(HOUSE, "man 0 1 0;".repeat(7) + "mans", 1, 70);
        e.fault(HOUSE, "man 0 1 0;floorss 3;", 1, 10);
        e.fault(LAW, "((((((mostly[1,2]", 1, 6);
        e.fault(LAW, "((((((1(", 1, 7);
        e.fault(LAW, "((((((1 least[", 1, 8);
        e.fault(WORK, "again 1[".repeat(6) + "agains 1[", 1, 48);
        e.fault(WORK, "again 1[".repeat(6) + "go again 1[", 1, 51);
    }
}
