/** Boundary cases of promises 38 and 39: weeks by seeds. */
final class EdgesOfWeeks {
    private static final String HOUSE = "floors 7;man 0 30 5;man 0 50 2;man 0 10 9;man 3 20 0;man 6 60 7;card 10 5;card 4 9;card 20 1;piano 70;";
    private final Edges e;

    EdgesOfWeeks(Edges e) {
        this.e = e;
    }

    void run() {
        ranges();
        draws();
        withoutMen();
        ifItCan();
        beyond400();
        inIt();
        spans();
        spanRanges();
    }

    private void ranges() {
        e.says(38, "A WEEK of so many DAYS (1 to 48), Q (0 to 16)");
        e.rangeOfArgument("week days", 1, 48, (x, days) -> x.week(1, 1, days, 0));
        e.rangeOfArgument("week q", 0, 16, (x, q) -> x.week(1, q, 1, 0));
        e.rangeOfArgument("week what", 0, 3, (x, what) -> x.week(1, 1, 1, what));
        e.answered("the least seed", x -> x.week(Integer.MIN_VALUE, 1, 1, 0));
        e.answered("the greatest seed", x -> x.week(Integer.MAX_VALUE, 1, 1, 0));
    }

    private void weekIs(PraiseLift x, int seed, int q, int days, int... want) {
        for (int what = 0; what < want.length; what++) {
            e.due("week(" + seed + ", " + q + ", " + days + ", " + what + ")", x.week(seed, q, days, what), want[what]);
        }
    }

    private void draws() {
        e.says(Edges.TERMS, "DRAW: the SEED (32 bits) becomes itself times 1,103,515,245, and 12,345 (it wraps); its bits 16 to 30, what is left of them.");
        // counted by another program, from the document alone
        int[][] weeks = {{0, 0, 1, 1, 0, 5, 27}, {0, 1, 48, 82, 1, 120, 33}, {0, 16, 48, 82, 6, 110, 0}, {1, 0, 1, 0, 0, 2, 17}, {1, 1, 7, 8, 0, 16, 27},
            {1, 15, 7, 8, 1, 19, 6}, {1, 16, 48, 85, 6, 109, 0}, {-1, 0, 7, 15, 6, 19, 71}, {-1, 1, 7, 15, 2, 26, 68}, {-1, 15, 48, 89, 0, 116, 0},
            {2147483647, 0, 48, 89, 0, 101, 66}, {2147483647, 1, 1, 3, 6, 3, 28}, {2147483647, 16, 7, 15, 0, 19, 0},
            {-2147483648, 0, 48, 82, 0, 95, 62}, {-2147483648, 15, 1, 1, 6, 3, 9}, {-2147483648, 16, 1, 1, 6, 3, 0},
            {12345, 0, 48, 89, 0, 76, 66}, {12345, 15, 7, 8, 0, 18, 3}};
        PraiseLift x = Check.housed(HOUSE);
        for (int[] w : weeks) {
            weekIs(x, w[0], w[1], w[2], w[3], w[4], w[5], w[6]);
        }
    }

    private void withoutMen() {
        e.says(Edges.TERMS, "Without MEN or CARDS nothing is DRAWN, DAYS go by.");
        weekIs(new PraiseLift(), 1, 16, 48, 0, 0, 0, 0);
        weekIs(Check.housed("card 1 0;"), 1, 16, 48, 0, 0, 0, 0);
        PraiseLift x = Check.housed("floors 3;man 0 60 9;piano 0;");
        weekIs(x, 1, 16, 48, 0, 0, 0, 0);
        Check.work(x, "enter 0;go;");
        weekIs(x, 1, 16, 48, 0, 2, 0, 0);
        e.due("he leaves at 2 by night", x.span(1, 10, 16, 48, 2, 0), 10);
        e.due("without cards nobody rides", x.span(1, 10, 0, 48, 1, 0), 0);
    }

    private void ifItCan() {
        e.says(Edges.TERMS, "say (if it can be done), enter (if it can), else leave (if it can); go (if it can)");
        // one man, one card, a law of 0: he enters, goes to 1, leaves, enters, goes to 2, leaves; then the same at 2
        PraiseLift x = Check.housed("floors 3;man 0 10 1;card 1 0;piano 5;");
        Check.law(x, "0");
        weekIs(x, 9, 16, 1, 4, 2, 2, 0);
        weekIs(x, 9, 0, 48, 192, 2, 96, 0);
        // heard 7 times by now: two of four can be said on the first day, all on the second
        Check.work(x, "again 7[say 0 0;];");
        weekIs(x, 9, 16, 1, 2, 2, 2, 0);
        weekIs(x, 9, 16, 2, 6, 2, 4, 0);
        Check.work(x, "again 2[say 0 0;];");
        weekIs(x, 9, 16, 1, 0, 2, 2, 0);
        // at another floor he can neither enter nor leave, nobody goes
        PraiseLift y = Check.housed("floors 3;man 1 10 1;card 1 0;piano 5;");
        weekIs(y, 9, 0, 48, 192, 0, 0, y.week(9, 0, 48, 3));
        e.says(Edges.TERMS, "then DRAW by 16 below Q: insult of that MAN (if it can)");
        // by 16 always: his pride is gone each time, the lift is at the highest if he is in it
        PraiseLift z = Check.housed("floors 12;man 0 10 0;card 20 0;piano 300;");
        weekIs(z, 9, 16, 1, 0, 11, 2, 0);
        weekIs(z, 9, 0, 1, 0, 0, 2, 34);
    }

    private void beyond400() {
        e.says(Edges.TERMS, "DAYS go by as by night (beyond 400, too).");
        PraiseLift x = EdgesOfAsked.lateHouse("floors 3;man 0 10 1;card 1 0;piano 5;");
        Check.law(x, "0");
        e.due("day 400", x.told(3), 400);
        weekIs(x, 9, 0, 48, 192, 2, 96, 0);
    }

    private void inIt() {
        e.says(38, "0 how often the BELL rang in it, 1 the FLOOR of the lift then, 2 rides of all MEN in it, 3 all PRIDE together then.");
        PraiseLift x = Check.housed(HOUSE);
        Check.work(x, "night;");
        weekIs(x, 1, 16, 48, 85, 6, 109, 0);
        Check.work(x, "say 0 2;enter 0;go;leave 0;insult 0;walk 0 6;walk 0 0;night;");
        e.due("the bell rang, he rode", x.told(7) * 10 + x.man(0, 6), 11);
        e.due("at 0 as before", x.told(4) * 10 + x.man(0, 0), 0);
        weekIs(x, 1, 16, 48, 85, 6, 109, 0);
    }

    private void spans() {
        e.says(39, "Of so many SEEDS (1 to 10; seed, seed and 1, ..): 0 the fewest rides in it, 1 the most, 2 by how many a MAN is above FLOOR 0 then.");
        // seed, many, q, days; fewest, most; how many above 0 for each man
        int[][] rows = {{0, 1, 0, 1, 5, 5, 1, 0, 0, 1, 1}, {0, 10, 5, 1, 0, 7, 2, 3, 2, 10, 10}, {2147483647, 10, 5, 7, 11, 25, 5, 9, 7, 8, 10},
            {-1, 2, 16, 48, 110, 110, 2, 2, 1, 1, 2}, {-2147483648, 10, 0, 3, 3, 13, 8, 5, 5, 9, 10}, {100, 10, 16, 48, 100, 182, 7, 8, 8, 9, 9}};
        PraiseLift x = Check.housed(HOUSE);
        for (int[] r : rows) {
            String name = "span from " + r[0] + " ";
            e.due(name + "fewest", x.span(r[0], r[1], r[2], r[3], 0, 0), r[4]);
            e.due(name + "most", x.span(r[0], r[1], r[2], r[3], 1, 4), r[5]);
            for (int m = 0; m < 5; m++) {
                e.due(name + "man " + m, x.span(r[0], r[1], r[2], r[3], 2, m), r[6 + m]);
            }
        }
    }

    private void spanRanges() {
        e.says(39, "(IllegalArgumentException: no such MAN, also for 0, 1.)");
        e.rangeOfArgument("span man for 0", 0, 2, (x, m) -> x.span(1, 1, 1, 1, 0, m));
        e.rangeOfArgument("span man for 1", 0, 2, (x, m) -> x.span(1, 1, 1, 1, 1, m));
        e.rangeOfArgument("span man for 2", 0, 2, (x, m) -> x.span(1, 1, 1, 1, 2, m));
        PraiseLift none = new PraiseLift();
        e.due("without men (2 IllegalArgumentException)", Check.thrown(() -> none.span(1, 1, 1, 1, 0, 0)), 2);
        e.says(39, "Of so many SEEDS (1 to 10;");
        e.rangeOfArgument("span many", 1, 10, (x, many) -> x.span(1, many, 1, 1, 0, 0));
        e.rangeOfArgument("span q", 0, 16, (x, q) -> x.span(1, 1, q, 1, 0, 0));
        e.rangeOfArgument("span days", 1, 48, (x, days) -> x.span(1, 1, 1, days, 0, 0));
        e.rangeOfArgument("span what", 0, 2, (x, what) -> x.span(1, 1, 1, 1, what, 0));
    }
}
