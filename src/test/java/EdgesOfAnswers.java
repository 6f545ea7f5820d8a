/** Boundary cases of promises 9 to 14 and 26 to 37: who is where, how heavy, how much a word weighs. */
final class EdgesOfAnswers {
    private final Edges e;

    EdgesOfAnswers(Edges e) {
        this.e = e;
    }

    void run() {
        told();
        toldRefused();
        toldGoes();
        man();
        lies();
        card();
        heard();
        swells();
        would();
        heaviest();
        waiting();
        floor();
        sweetest();
        lacks();
        truest();
        proud();
        liked();
        above();
        ride();
        vacant();
        times();
        timesEdges();
    }

    private void told() {
        e.says(9, "IllegalArgumentException: another what (so below).");
        e.rangeOfArgument("told", 0, 11, PraiseLift::told);
        PraiseLift x = Edges.busy();
        int[] want = {5, 3, 3, 0, 4, 1, 54, 1, 60, 1, 1, 3};
        for (int what = 0; what < want.length; what++) {
            e.due("told(" + what + ")", x.told(what), want[what]);
        }
    }

    private void toldRefused() {
        e.says(9, "10 STEPS REFUSED by the latest WORK (0 ahead of any, behind undo(), restore())");
        PraiseLift x = Check.housed(Edges.HOUSE);
        e.due("ahead of any", x.told(10), 0);
        Check.work(x, "again 30[leave 0;leave 1;leave 2;];");
        e.due("90", x.told(10), 90);
        x.image();
        e.due("an image leaves it", x.told(10), 90);
        Check.work(x, "leave 0;");
        e.due("of the latest alone", x.told(10), 1);
        Check.work(x, "leave 0;leave 0;oops");
        e.due("a fault leaves it", x.told(10), 1);
        e.due("behind undo()", x.undo() + x.told(10), 1);
        Check.work(x, "leave 0;leave 0;");
        e.due("2", x.told(10), 2);
        e.due("behind restore()", x.restore() + x.told(10), 0);
        e.due("the work of 90 is there", x.count(2), 1);
        Check.work(x, "night;");
        e.due("none refused", x.told(10), 0);
        Check.work(x, "leave 0;");
        Check.house(x, Edges.HOUSE);
        e.due("ahead of any in a new house", x.told(10), 0);
    }

    private void toldGoes() {
        e.says(9, "11 the FLOOR to which the lift would go now (its own: nobody is in it).");
        PraiseLift x = Check.housed("floors 3;man 0 60 0;piano 0;");
        e.due("nobody is in it", x.told(11), 0);
        Check.work(x, "enter 0;");
        e.due("to the highest", x.told(11), 2);
        e.due("it did not go", x.told(4), 0);
        Check.work(x, "go;leave 0;");
        e.due("nobody is in it, at 2", x.told(11), 2);
        PraiseLift y = Check.housed("man 0 60 0;piano 300;");
        e.due("nobody, however light", y.told(11), 0);
    }

    private void man() {
        e.says(10, "NoSuchElementException: no such MAN, CARD (so below, ahead of others).");
        e.rangeOfNobody("man of 3:", 0, 2, (x, m) -> x.man(m, 0));
        e.rangeOfArgument("man what", 0, 7, (x, what) -> x.man(0, what));
        e.nobody("man(3, 8)", x -> x.man(3, 8));
        e.nobody("man(-1, -1)", x -> x.man(-1, -1));
        PraiseLift none = new PraiseLift();
        e.due("nobody in a new house (1 NoSuchElementException)", Check.thrown(() -> none.man(0, 99)), 1);
        e.says(10, "0 his FLOOR (the lift's, if he is in it)");
        PraiseLift x = Check.housed("floors 2;man 0 1 0;man 0 1 0;piano 0;");
        Check.work(x, "enter 0;go;");
        e.due("the lift's", x.man(0, 0), 1);
        e.due("his own", x.man(1, 0), 0);
        e.due("in the lift", x.man(0, 5), 1);
        e.due("not in the lift", x.man(1, 5), 0);
    }

    private void lies() {
        e.says(10, "7 CARDS that would be a LIE to him (bits).");
        PraiseLift x = Check.housed("man 0 1 0;man 0 1 9;man 0 1 5;card 1 0;card 1 4;card 1 5;card 1 6;card 1 8;card 1 9;card 1 5;card 1 0;");
        e.due("to him who has no vanity none is", x.man(0, 7), 0);
        e.due("to the vainest all but 9", x.man(1, 7), 223);
        e.due("to him of 5 those below 5", x.man(2, 7), 131);
        e.due("without cards", Check.housed("man 0 1 9;").man(0, 7), 0);
    }

    private void card() {
        e.says(11, "Of a CARD: 0 P, 1 T, 2 how often it was heard by all now.");
        e.rangeOfNobody("card of 3:", 0, 2, (x, c) -> x.card(c, 0));
        e.rangeOfArgument("card what", 0, 2, (x, what) -> x.card(0, what));
        e.nobody("card(3, 3)", x -> x.card(3, 3));
        e.nobody("card(-1, -1)", x -> x.card(-1, -1));
        PraiseLift x = Check.housed("man 0 1 0;".repeat(7) + "card 1 0;");
        e.due("by nobody yet", x.card(0, 2), 0);
        Check.work(x, "again 9[say 0 0;say 1 0;say 2 0;say 3 0;say 4 0;say 5 0;say 6 0;];");
        e.due("9 times by 7", x.card(0, 2), 63);
        Check.work(x, "say 0 0;night;");
        e.due("behind a night", x.card(0, 2), 0);
        e.due("without men", Check.housed("card 1 0;").card(0, 2), 0);
    }

    private void heard() {
        e.says(12, "How often a MAN heard a CARD by now.");
        e.rangeOfNobody("heard by man", 0, 2, (x, m) -> x.heard(m, 0));
        e.rangeOfNobody("heard of card", 0, 2, (x, c) -> x.heard(0, c));
        PraiseLift x = Check.housed("man 0 1 0;".repeat(7) + "card 1 0;".repeat(8));
        for (int often = 0; often <= 9; often++) {
            e.due("the last card by the last man", x.heard(6, 7), often);
            e.due("said", Check.work(x, "say 6 7;"), often < 9 ? 1 : 0);
        }
        e.due("9 at most", x.heard(6, 7), 9);
        e.due("not by the next", x.heard(5, 7) + x.heard(6, 6) + x.heard(0, 0), 0);
    }

    private void swells() {
        e.says(13, "SWELLS of a CARD to a MAN now.");
        e.rangeOfNobody("swells man", 0, 2, (x, m) -> x.swells(m, 0));
        e.rangeOfNobody("swells by card", 0, 2, (x, c) -> x.swells(0, c));
        PraiseLift x = Check.housed("man 0 1 0;man 0 60 9;card 1 0;card 20 9;");
        e.due("the least", x.swells(0, 0), 1);
        e.due("the most", x.swells(1, 1), 29);
        Check.work(x, "say 0 0;again 9[say 1 1;];");
        e.due("0 at least", x.swells(0, 0), 0);
        e.due("heard 9 times it swells all the same", x.swells(1, 1), 11);
        Check.law(x, "praise*praise");
        e.due("40 at most", x.swells(0, 1), 40);
        e.due("1", x.swells(0, 0), 1);
    }

    private void would() {
        e.says(14, "SWELLS by the LAW for such praise (1 to 20), true, vanity (0 to 9 both), weight (1 to 60), pride (0 to 900), heard (0 to 9),"
                + " rides (0 to 999), floor (0 to 11), man (0 to 6).");
        e.rangeOfArgument("praise", 1, 20, (x, v) -> x.would(v, 0, 0, 1, 0, 0, 0, 0, 0));
        e.rangeOfArgument("true", 0, 9, (x, v) -> x.would(1, v, 0, 1, 0, 0, 0, 0, 0));
        e.rangeOfArgument("vanity", 0, 9, (x, v) -> x.would(1, 0, v, 1, 0, 0, 0, 0, 0));
        e.rangeOfArgument("weight", 1, 60, (x, v) -> x.would(1, 0, 0, v, 0, 0, 0, 0, 0));
        e.rangeOfArgument("pride", 0, 900, (x, v) -> x.would(1, 0, 0, 1, v, 0, 0, 0, 0));
        e.rangeOfArgument("heard", 0, 9, (x, v) -> x.would(1, 0, 0, 1, 0, v, 0, 0, 0));
        e.rangeOfArgument("rides", 0, 999, (x, v) -> x.would(1, 0, 0, 1, 0, 0, v, 0, 0));
        e.rangeOfArgument("floor", 0, 11, (x, v) -> x.would(1, 0, 0, 1, 0, 0, 0, v, 0));
        e.rangeOfArgument("man", 0, 6, (x, v) -> x.would(1, 0, 0, 1, 0, 0, 0, 0, v));
        PraiseLift x = new PraiseLift();
        String[] facts = {"praise-19", "true-8", "vanity-8", "weight-59", "pride-899", "heard-8", "rides-998", "floor-10", "man-5"};
        for (String fact : facts) {
            e.due("law " + fact, Check.law(x, fact), 1);
            e.due("all of the most by " + fact, x.would(20, 9, 9, 60, 900, 9, 999, 11, 6), 1);
            e.due("all of the least by " + fact, x.would(1, 0, 0, 1, 0, 0, 0, 0, 0), 0);
        }
    }

    private void heaviest() {
        e.says(26, "The MAN who is HEAVIEST (what 0), of alike ones the first, how HEAVY (1); NONE both: there are none.");
        e.rangeOfArgument("heaviest", 0, 1, PraiseLift::heaviest);
        e.due("none", new PraiseLift().heaviest(0), -1);
        e.due("none is heavy", new PraiseLift().heaviest(1), -1);
        PraiseLift x = Check.housed("man 0 9 0;man 0 60 0;man 0 60 0;man 0 9 0;card 20 0;card 20 0;card 20 0;");
        e.due("the first of alike ones", x.heaviest(0), 1);
        e.due("60", x.heaviest(1), 60);
        Check.law(x, "40");
        Check.work(x, "again 9[say 3 0;say 3 1;say 3 2;];");
        e.due("the last, by pride", x.heaviest(0), 3);
        e.due("900 and 9", x.heaviest(1), 909);
        Check.work(x, "again 9[say 2 0;say 2 1;say 2 2;];");
        e.due("the most of all", x.heaviest(1), 960);
        e.due("one alone", Check.housed("man 0 1 0;").heaviest(0), 0);
    }

    private void waiting() {
        e.says(27, "MEN (bits) who could enter the lift now.");
        PraiseLift x = Check.housed("floors 2;" + "man 0 9 0;".repeat(6) + "man 1 9 0;piano 0;");
        e.due("all but who is elsewhere", x.waiting(), 63);
        Check.work(x, "enter 0;enter 1;enter 2;");
        e.due("3 are in it: each of the others could", x.waiting(), 56);
        Check.work(x, "enter 3;");
        e.due("4 are in it", x.waiting(), 0);
        Check.work(x, "go;");
        e.due("4 are in it at 1", x.waiting(), 0);
        Check.work(x, "leave 3;");
        e.due("at 1", x.waiting(), 72);
        e.due("without men", new PraiseLift().waiting(), 0);
    }

    private void floor() {
        e.says(28, "MEN (bits) at a FLOOR, not in the lift.");
        e.rangeOfArgument("floor of 5:", 0, 4, PraiseLift::floor);
        PraiseLift x = Check.housed("floors 12;" + "man 0 9 0;".repeat(6) + "man 11 9 0;piano 0;");
        e.due("the lowest", x.floor(0), 63);
        e.due("the highest", x.floor(11), 64);
        e.due("nobody", x.floor(5), 0);
        Check.work(x, "enter 5;");
        e.due("not in the lift", x.floor(0), 31);
        PraiseLift two = Check.housed("floors 2;");
        e.due("floor 1 of 2", two.floor(1), 0);
        e.due("floor 2 of 2 (2 IllegalArgumentException)", Check.thrown(() -> two.floor(2)), 2);
        PraiseLift six = new PraiseLift();
        e.due("floor 5 of 6", six.floor(5), 0);
        e.due("floor 6 of 6 (2 IllegalArgumentException)", Check.thrown(() -> six.floor(6)), 2);
    }

    private void sweetest() {
        e.says(29, "The CARD that SWELLS a MAN most now (what 0), of alike ones the first, how much (1); NONE both: there are no CARDS.");
        e.rangeOfNobody("sweetest man", 0, 2, (x, m) -> x.sweetest(m, 0));
        e.rangeOfArgument("sweetest what", 0, 1, (x, what) -> x.sweetest(0, what));
        e.nobody("sweetest(3, 2)", x -> x.sweetest(3, 2));
        PraiseLift none = Check.housed("man 0 1 0;");
        e.due("no cards", none.sweetest(0, 0), -1);
        e.due("no cards, how much", none.sweetest(0, 1), -1);
        PraiseLift x = Check.housed("man 0 1 9;card 5 0;card 9 0;card 9 0;card 5 0;");
        e.due("the first of alike ones", x.sweetest(0, 0), 1);
        e.due("18", x.sweetest(0, 1), 18);
        Check.law(x, "0-5");
        e.due("all by 0: the first", x.sweetest(0, 0), 0);
        e.due("0", x.sweetest(0, 1), 0);
        Check.law(x, "praise*10");
        e.due("both held at 40: the first of all", x.sweetest(0, 0), 0);
        e.due("40", x.sweetest(0, 1), 40);
        Check.law(x, "heard");
        Check.work(x, "again 9[say 0 3;];");
        e.due("heard 9 times or not", x.sweetest(0, 0), 3);
    }

    private void lacks() {
        e.says(30, "the piano and 1, less the LOAD (0 and below: it goes up, if anybody is in it).");
        PraiseLift x = Check.housed("man 0 60 0;man 0 1 0;man 0 1 0;piano 60;");
        e.due("nobody is in it", x.lacks(), 61);
        Check.work(x, "enter 0;");
        e.due("alike", x.lacks(), 1);
        e.due("it stays", x.told(11), 0);
        Check.work(x, "enter 1;");
        e.due("1 more than the piano", x.lacks(), 0);
        e.due("it goes up", x.told(11), 1);
        Check.work(x, "enter 2;");
        e.due("below", x.lacks(), -1);
        e.due("a piano of 0, empty", Check.housed("piano 0;").lacks(), 1);
        e.due("a piano of 300, empty", Check.housed("piano 300;").lacks(), 301);
    }

    private void truest() {
        e.says(31, "Of CARDS that are no LIE to a MAN that which SWELLS him most now (what 0), of alike ones the first, how much (1); NONE both: there is none.");
        e.rangeOfNobody("truest man", 0, 2, (x, m) -> x.truest(m, 0));
        e.rangeOfArgument("truest what", 0, 1, (x, what) -> x.truest(0, what));
        e.nobody("truest(-1, -1)", x -> x.truest(-1, -1));
        PraiseLift x = Check.housed("man 0 1 5;man 0 1 9;man 0 1 0;card 20 4;card 7 5;card 7 6;card 3 8;");
        e.due("true 5 is no lie to vanity 5", x.truest(0, 0), 1);
        e.due("12", x.truest(0, 1), 12);
        e.due("all are lies", x.truest(1, 0), -1);
        e.due("all are lies, how much", x.truest(1, 1), -1);
        e.due("none is a lie", x.truest(2, 0), 0);
        Check.law(x, "0");
        e.due("0 is something: the first", x.truest(0, 0), 1);
        e.due("0", x.truest(0, 1), 0);
        PraiseLift none = Check.housed("man 0 1 0;");
        e.due("no cards", none.truest(0, 0), -1);
        e.due("no cards, how much", none.truest(0, 1), -1);
    }

    private void proud() {
        e.says(32, "MEN (bits) who have PRIDE (what 0), whose PRIDE is more than W (1).");
        e.rangeOfArgument("proud", 0, 1, PraiseLift::proud);
        PraiseLift x = Check.housed("man 0 10 0;man 0 11 0;man 0 9 0;man 0 1 0;man 0 1 0;card 10 0;card 1 0;");
        e.due("nobody", x.proud(0), 0);
        e.due("nobody more than w", x.proud(1), 0);
        Check.work(x, "say 0 0;say 1 0;say 2 0;say 3 1;");
        e.due("all but the last", x.proud(0), 15);
        e.due("10 is more than 9 alone", x.proud(1), 4);
        Check.work(x, "night;");
        e.due("half of 1 is none", x.proud(0), 7);
        e.due("without men", new PraiseLift().proud(0) + new PraiseLift().proud(1), 0);
    }

    private void liked() {
        e.says(33, "The MAN whom a CARD SWELLS most now, of alike ones the first; NONE: there are no MEN.");
        e.rangeOfNobody("liked", 0, 2, PraiseLift::liked);
        e.due("no men", Check.housed("card 1 0;").liked(0), -1);
        PraiseLift x = Check.housed("man 0 1 3;man 0 1 5;man 0 1 5;card 9 0;");
        e.due("the first of alike ones", x.liked(0), 1);
        Check.law(x, "0");
        e.due("by 0: the first of all", x.liked(0), 0);
        Check.law(x, "man*40");
        e.due("held at 40: the first of those", x.liked(0), 1);
        Check.law(x, "heard");
        Check.work(x, "again 9[say 2 0;];");
        e.due("heard 9 times or not", x.liked(0), 2);
        PraiseLift none = new PraiseLift();
        e.due("no card in a new house (1 NoSuchElementException)", Check.thrown(() -> none.liked(0)), 1);
    }

    private void above() {
        e.says(34, "MEN (bits) who are at a higher FLOOR than a MAN is (those in the lift at its own).");
        e.rangeOfNobody("above", 0, 2, PraiseLift::above);
        PraiseLift x = Check.housed("floors 3;man 0 60 0;man 0 1 0;man 1 1 0;man 2 1 0;piano 59;");
        e.due("two are above", x.above(0), 12);
        e.due("alike is not above", x.above(1), 12);
        e.due("nobody is above the highest", x.above(3), 0);
        Check.work(x, "enter 0;go;");
        e.due("the lift's own", x.above(1), 13);
        e.due("from the lift", x.above(0), 8);
        e.due("beside the lift", x.above(2), 8);
    }

    private void ride() {
        e.says(35, "were just told MEN (bits; of any FLOOR, more than 4, too) in it; its own: none. IllegalArgumentException: bits of no MEN.");
        e.rangeOfArgument("ride", 0, 7, PraiseLift::ride);
        for (int set : new int[] {8, 9, 15, 16, 1 << 30, 1 << 31, (1 << 31) + 1}) {
            e.argument("ride(" + set + ")", x -> x.ride(set));
        }
        PraiseLift x = Check.housed("floors 12;" + "man 0 10 0;".repeat(6) + "man 11 10 0;piano 30;");
        e.due("none", x.ride(0), 0);
        e.due("less", x.ride(3), 0);
        e.due("alike", x.ride(7), 0);
        e.due("4", x.ride(15), 2);
        e.due("5", x.ride(31), 3);
        e.due("all 7, of any floor", x.ride(127), 5);
        e.due("4 of any floor", x.ride(120), 2);
        e.due("128: nobody (2 IllegalArgumentException)", Check.thrown(() -> x.ride(128)), 2);
        Check.work(x, "enter 0;enter 1;enter 2;enter 3;go;");
        e.due("its own: none", x.ride(0), 2);
        e.due("from where it is, just these", x.ride(64), 0);
        e.due("from where it is up", x.ride(127), 7);
        PraiseLift y = new PraiseLift();
        e.due("none of no men", y.ride(0), 0);
        e.due("1 of no men (2 IllegalArgumentException)", Check.thrown(() -> y.ride(1)), 2);
    }

    private void vacant() {
        e.says(36, "FLOORS (bits) at which nobody is (those in the lift are at its own).");
        e.due("without men", new PraiseLift().vacant(), 63);
        e.due("12 without men", Check.housed("floors 12;").vacant(), 4095);
        e.due("2 without men", Check.housed("floors 2;").vacant(), 3);
        PraiseLift x = Check.housed("floors 2;man 0 60 0;man 1 1 0;piano 0;");
        e.due("none", x.vacant(), 0);
        Check.work(x, "enter 0;");
        e.due("in the lift at 0", x.vacant(), 0);
        Check.work(x, "go;");
        e.due("in the lift at 1", x.vacant(), 1);
        PraiseLift y = Check.housed("floors 12;man 11 1 0;");
        e.due("all but the highest", y.vacant(), 2047);
    }

    private void times() {
        e.says(37, "so that he is HEAVY n (0 to 999) or more");
        e.rangeOfNobody("times man", 0, 2, (x, m) -> x.times(m, 0, 0));
        e.rangeOfNobody("times card", 0, 2, (x, c) -> x.times(0, c, 0));
        e.rangeOfArgument("times n", 0, 999, (x, n) -> x.times(0, 0, n));
        e.nobody("times(3, 0, 1000)", x -> x.times(3, 0, 1000));
        e.nobody("times(0, 3, -1)", x -> x.times(0, 3, -1));
        PraiseLift x = Check.housed("man 0 20 0;card 10 0;card 1 0;");
        // 10 8 6 4 2 and nothing more
        int[][] want = {{0, 0}, {20, 0}, {21, 1}, {30, 1}, {31, 2}, {38, 2}, {39, 3}, {44, 3}, {45, 4}, {48, 4}, {49, 5}, {50, 5}, {51, -1}, {999, -1}};
        for (int[] row : want) {
            e.due("times(0, 0, " + row[0] + ")", x.times(0, 0, row[0]), row[1]);
        }
    }

    private void timesEdges() {
        e.says(37, "NONE: it can't be so often.");
        PraiseLift x = Check.housed("man 0 60 0;card 10 0;card 1 0;card 1 0;");
        Check.law(x, "10");
        e.due("9 times", x.times(0, 0, 150), 9);
        e.due("not 10 times", x.times(0, 0, 151), -1);
        Check.work(x, "again 4[say 0 0;];");
        e.due("5 times more", x.times(0, 0, 150), 5);
        e.due("not 6 times more", x.times(0, 0, 151), -1);
        Check.work(x, "again 5[say 0 0;];");
        e.due("heard 9 times, heavy enough", x.times(0, 0, 150), 0);
        e.due("heard 9 times", x.times(0, 0, 151), -1);
        e.due("another card", x.times(0, 1, 151), 1);
        Check.law(x, "0");
        e.due("never by 0", x.times(0, 1, 151), -1);
        Check.law(x, "40");
        Check.work(x, "again 9[say 0 1;say 0 2;];");
        e.due("90 and 720", x.man(0, 3), 810);
        Check.work(x, "night;say 0 0;");
        e.due("as now", x.times(0, 0, 525), 1);
        e.due("960 is the most of all", fullOfPride().times(0, 0, 960), 0);
        e.due("961 is too much", fullOfPride().times(0, 0, 961), -1);
        e.due("heard first", Edges.settled().times(2, 0, 60), -1);
    }

    private static PraiseLift fullOfPride() {
        PraiseLift x = Check.housed("man 0 60 0;card 1 0;card 1 0;card 1 0;card 1 0;");
        Check.law(x, "40");
        Check.work(x, "again 9[say 0 1;say 0 2;say 0 3;];");
        return x;
    }
}
