/** Promises 15 to 25, 38 and 39: what would be, what is best, weeks by seeds. */
public final class AskedTest {
    private static final String HOUSE = "floors 5;man 0 30 4;man 0 50 7;man 2 20 0;card 10 5;card 4 9;card 20 1;piano 60;";
    private static final Check CHECK = new Check();

    public static void main(String[] args) {
        ahead();
        to();
        rides();
        couple();
        meet();
        cheapest();
        fits();
        look();
        streak();
        flatter();
        breath();
        weeks();
        longWeeks();
        spans();
        wrongWeeks();
        nothingStays();
        CHECK.end("AskedTest");
    }

    private static void due(String what, long got, long want) {
        CHECK.due(what, got, want);
    }

    private static void ahead() {
        PraiseLift x = Check.housed("floors 12;man 0 10 0;man 0 20 0;card 15 0;piano 32;");
        Check.work(x, "say 0 0;say 1 0;say 1 0;");
        due("nobody rides", x.ahead(99, 0), 0);
        Check.work(x, "enter 0;enter 1;leave 0;");
        // 20 and 28 against 32: up by 2
        int[] level = {0, 2, 4, 6, 8, 10, 11, 11};
        for (int n = 0; n < level.length; n++) {
            due("level ahead " + n, x.ahead(n, 0), level[n]);
        }
        due("level ahead 99", x.ahead(99, 0), 11);
        int[] load = {48, 34, 27, 23, 21, 20, 20};
        int[] pride = {43, 21, 10, 4, 1, 0, 0};
        for (int n = 0; n < load.length; n++) {
            due("load ahead " + n, x.ahead(n, 1), load[n]);
            due("pride ahead " + n, x.ahead(n, 2), pride[n]);
        }
        due("load ahead 99", x.ahead(99, 1), 20);
        PraiseLift y = Check.housed("man 0 10 0;card 1 0;");
        Check.work(y, "again 30[again 30[night;];];");
        Check.work(y, "again 30[again 30[night;];];");
        Check.work(y, "again 30[again 30[night;];];");
        Check.law(y, "40");
        Check.work(y, "say 0 0;");
        due("beyond day 400", y.ahead(1, 2), 20);
        CHECK.throwsArgument("ahead(-1, 0)", () -> x.ahead(-1, 0));
        CHECK.throwsArgument("ahead(100, 0)", () -> x.ahead(100, 0));
        CHECK.throwsArgument("ahead(0, 3)", () -> x.ahead(0, 3));
        CHECK.throwsArgument("ahead(0, -1)", () -> x.ahead(0, -1));
    }

    private static void to() {
        PraiseLift x = Check.housed("floors 9;man 0 10 0;man 0 10 3;man 0 60 9;card 9 0;card 9 0;card 20 0;card 3 0;card 11 0;piano 20;");
        due("nobody in it", x.to(0), -1);
        Check.work(x, "enter 0;enter 1;");
        // alike: it stays; to man 1 they swell by 12 12 23 6 14
        due("by none", x.to(0), 0);
        due("up 1: 6", x.to(1), 8);
        due("up 2: 12", x.to(2), 1);
        due("up 3: 23", x.to(3), 4);
        due("up 4: 35", x.to(4), 5);
        due("up 5: 49", x.to(5), 7);
        due("up 6: 53 of 4 cards", x.to(6), 15);
        due("up 7: 61 of 4 cards, not 67 of 5", x.to(7), 23);
        due("not so far", x.to(8), -1);
        Check.work(x, "again 9[say 1 3;];insult 1;leave 0;leave 1;");
        Check.work(x, "walk 0 8;enter 0;enter 1;");
        due("at the top", x.told(4), 8);
        due("stays at 8", x.to(8), 0);
        due("card 3 only to man 0", x.to(7), -1);
        Check.work(x, "leave 0;");
        // man 1 alone: 10 less than 20; 12 12 23 and 14 bring it above: down by 2, or to the top
        due("down 2", x.to(6), 0);
        due("to the top", x.to(8), 1);
        due("card 3 can't be said", x.to(7), -1);
        Check.law(x, "3");
        due("three of 3 are down 1", x.to(7), 1);
        due("alike needs 10", x.to(8), 23);
        Check.work(x, "again 9[say 1 0;];insult 1;");
        due("card 0 can't be said", x.to(7), 2);
        due("alike without it", x.to(8), -1);
        Check.law(x, "5");
        due("two of the others", x.to(8), 6);
        PraiseLift y = Check.housed("floors 3;man 0 20 0;card 1 0;card 1 0;piano 20;");
        Check.work(y, "say 0 1;enter 0;insult 0;");
        Check.law(y, "0");
        Check.work(y, "again 9[say 0 0;];");
        due("alike, at the top", y.to(2), 0);
        due("what can't be said takes nothing away", y.to(1), -1);
        CHECK.throwsArgument("to(-1)", () -> x.to(-1));
        CHECK.throwsArgument("to(9)", () -> x.to(9));
    }

    private static void rides() {
        ridesOf("piano 60;", "30 50 20", 1);
        ridesOf("piano 49;", "30 50 20", 2);
        ridesOf("piano 50;", "30 50 20", 1);
        ridesOf("piano 0;", "1 1 1 1 1 1 1", 7);
        ridesOf("piano 4;", "1 1 1 1 1 1 1", 0);
        ridesOf("piano 3;", "1 1 1 1 1 1 1", 1);
        ridesOf("piano 2;", "1 1 1 1 1 1 1", 2);
        ridesOf("piano 1;", "1 1 1 1 1 1 1", 3);
        ridesOf("piano 10;", "9 8 7 4 3 2", 3);
        ridesOf("piano 300;", "60 60 60 60 60 60 60", 0);
        ridesOf("piano 239;", "60 60 60 60 60 60 60", 1);
        PraiseLift x = Check.housed("floors 3;man 0 1 0;man 2 1 0;card 9 0;piano 5;");
        Check.work(x, "enter 0;say 1 0;");
        due("by pride, in the lift or not", x.rides(), 1);
        due("no men", new PraiseLift().rides(), 0);
    }

    private static void ridesOf(String piano, String weights, int want) {
        StringBuilder house = new StringBuilder(piano);
        for (String w : weights.split(" ")) {
            house.append("man 0 ").append(w).append(" 0;");
        }
        due("rides of " + house, Check.housed(house.toString()).rides(), want);
    }

    private static void couple() {
        PraiseLift x = Check.housed(HOUSE);
        due("couple", x.couple(0), 2);
        due("apart", x.couple(1), 10);
        Check.work(x, "say 2 0;");
        due("by pride", x.couple(0), 2);
        due("by pride apart", x.couple(1), 0);
        PraiseLift y = Check.housed("man 0 1 0;man 0 60 0;man 0 60 0;man 0 60 0;piano 300;");
        due("the first alike", y.couple(0), 12);
        due("180 apart", y.couple(1), 180);
        Check.house(y, "man 0 1 0;");
        due("not two", y.couple(0), -1);
        due("not two apart", y.couple(1), -1);
        CHECK.throwsArgument("couple(2)", () -> y.couple(2));
        CHECK.throwsArgument("couple(-1)", () -> y.couple(-1));
    }

    private static void meet() {
        PraiseLift x = Check.housed("floors 10;man 1 1 0;man 4 1 0;man 7 1 0;man 9 1 0;");
        due("the lowest alike", x.meet(0), 4);
        due("floors to walk", x.meet(1), 11);
        Check.house(x, "floors 4;man 0 60 0;man 0 60 0;man 3 1 0;piano 0;");
        due("meet at 0", x.meet(0), 0);
        Check.work(x, "enter 0;enter 1;go;");
        due("those in the lift are where it is", x.meet(0), 3);
        due("nothing to walk", x.meet(1), 0);
        due("without men", new PraiseLift().meet(0), 0);
        due("without men to walk", new PraiseLift().meet(1), 0);
        CHECK.throwsArgument("meet(2)", () -> x.meet(2));
        CHECK.throwsArgument("meet(-1)", () -> x.meet(-1));
    }

    private static void cheapest() {
        PraiseLift x = Check.housed("floors 3;man 0 30 0;man 2 20 0;man 0 9 5;card 20 0;card 10 0;card 11 0;card 11 0;piano 60;");
        due("too light", x.cheapest(0), -1);
        Check.work(x, "enter 0;");
        // with man 1 they are 50: only by 11 and 20 above 60
        due("the least that does", x.cheapest(1), 2);
        due("alone", x.cheapest(0), -1);
        Check.work(x, "again 9[say 1 2;];");
        // he is heavy 20 and 36 now, so that all would do
        due("already above", x.cheapest(1), 1);
        Check.work(x, "insult 1;");
        due("not what he heard 9 times", x.cheapest(1), 3);
        Check.work(x, "again 9[say 1 3;];insult 1;");
        due("the other one", x.cheapest(1), 0);
        Check.work(x, "again 9[say 1 0;];insult 1;");
        due("none left", x.cheapest(1), -1);
        CHECK.throwsNobody("cheapest(3)", () -> x.cheapest(3));
        CHECK.throwsNobody("cheapest(-1)", () -> x.cheapest(-1));
    }

    private static void fits() {
        PraiseLift x = Check.housed(HOUSE);
        due("no line: all fit", x.fits(0), 9);
        due("the first of all", x.fits(1), 0);
        // said to man 0: 44 38 54; to man 1: 67 61 77; to man 2: 30 24 40
        Check.book(x, "1 61;");
        due("one fits", x.fits(0), 1);
        due("man 1, card 1", x.fits(1), 11);
        Check.book(x, "0 30;1 50;");
        due("it was man 2", x.fits(0), 3);
        due("card 0 first", x.fits(1), 20);
        Check.book(x, "0 30;1 50;2 20;");
        due("nobody heard a thing", x.fits(0), 0);
        due("none first", x.fits(1), -1);
        Check.book(x, "0 44;1 61;");
        due("not two of them", x.fits(0), 0);
        Check.law(x, "0");
        Check.book(x, "0 30;1 50;2 20;");
        due("all by 0", x.fits(0), 9);
        PraiseLift y = Check.housed("man 0 60 0;card 1 0;card 1 0;card 1 0;");
        Check.law(y, "40");
        Check.work(y, "again 9[say 0 0;say 0 1;say 0 2;];");
        Check.book(y, "0 960;");
        due("heard 9 times or not, 900 at most", y.fits(0), 3);
        due("without men", new PraiseLift().fits(0), 0);
        due("without men the first", new PraiseLift().fits(1), -1);
        CHECK.throwsArgument("fits(2)", () -> x.fits(2));
        CHECK.throwsArgument("fits(-1)", () -> x.fits(-1));
    }

    private static void look() {
        PraiseLift x = Check.housed(HOUSE);
        due("6 are left by each", x.look(1), 6);
        due("the first of them", x.look(0), 0);
        Check.book(x, "0 30;");
        // 6 pairs, of man 1 or 2; one of them in each case is one of 3 or left by the other 3
        due("3 at the worst", x.look(1), 3);
        due("man 1", x.look(0), 1);
        Check.book(x, "0 30;1 50;");
        due("one of 30 24 40", x.look(1), 1);
        due("man 2", x.look(0), 2);
        Check.book(x, "2 30;");
        due("one is left", x.look(1), 1);
        due("by man 0", x.look(0), 0);
        Check.book(x, "2 999;");
        due("none fits", x.look(1), 0);
        due("man 0 all the same", x.look(0), 0);
        Check.book(x, "0 1;1 1;2 1;");
        due("all in lines", x.look(0), -1);
        due("all in lines, left", x.look(1), -1);
        PraiseLift y = Check.housed("man 0 1 0;man 0 1 1;card 5 0;card 5 0;card 6 0;");
        Check.law(y, "praise*vanity");
        // man 0 never changes; man 1: 6 6 7, or 1 by man 0's three
        due("man 1 tells more", y.look(0), 1);
        due("3 at the worst of man 1", y.look(1), 3);
        due("no men", new PraiseLift().look(0), -1);
        due("no men, left", new PraiseLift().look(1), -1);
        due("no cards", Check.housed("man 0 1 0;").look(0), 0);
        due("no cards, left", Check.housed("man 0 1 0;").look(1), 0);
        CHECK.throwsArgument("look(2)", () -> x.look(2));
        CHECK.throwsArgument("look(-1)", () -> x.look(-1));
    }

    private static void streakIs(int n, int k, int q, long above, long below) {
        PraiseLift x = new PraiseLift();
        due("streak above " + n + " " + k + " " + q, x.streak(n, k, q, 0), above);
        due("streak below " + n + " " + k + " " + q, x.streak(n, k, q, 1), below);
    }

    private static void streak() {
        streakIs(0, 1, 16, 1, 1);
        streakIs(1, 1, 1, 15, 16);
        streakIs(1, 1, 6, 5, 8);
        streakIs(3, 1, 8, 1, 8);
        streakIs(3, 2, 8, 5, 8);
        streakIs(4, 2, 8, 1, 2);
        streakIs(3, 3, 8, 7, 8);
        streakIs(3, 4, 16, 1, 1);
        streakIs(3, 3, 16, 0, 1);
        streakIs(12, 12, 16, 0, 1);
        streakIs(12, 12, 0, 1, 1);
        streakIs(12, 12, 8, 4095, 4096);
        streakIs(12, 1, 1, 129746337890625L, 281474976710656L);
        streakIs(2, 2, 5, 231, 256);
        streakIs(12, 2, 8, 377, 4096);
        PraiseLift x = new PraiseLift();
        CHECK.throwsArgument("streak(-1, 1, 0, 0)", () -> x.streak(-1, 1, 0, 0));
        CHECK.throwsArgument("streak(13, 1, 0, 0)", () -> x.streak(13, 1, 0, 0));
        CHECK.throwsArgument("streak(0, 0, 0, 0)", () -> x.streak(0, 0, 0, 0));
        CHECK.throwsArgument("streak(0, 13, 0, 0)", () -> x.streak(0, 13, 0, 0));
        CHECK.throwsArgument("streak(0, 1, -1, 0)", () -> x.streak(0, 1, -1, 0));
        CHECK.throwsArgument("streak(0, 1, 17, 0)", () -> x.streak(0, 1, 17, 0));
        CHECK.throwsArgument("streak(0, 1, 0, 2)", () -> x.streak(0, 1, 0, 2));
        CHECK.throwsArgument("streak(0, 1, 0, -1)", () -> x.streak(0, 1, 0, -1));
    }

    private static void flatter() {
        PraiseLift x = new PraiseLift();
        int[][] want = {{5, 3, 1, 11, 0}, {5, 0, 4, 0, 10}, {0, 0, 4, 0, 0}, {99, 99, 1, 11, 0}, {99, 0, 4, 0, 198}, {0, 1, 1, 11, 0}};
        for (int[] row : want) {
            for (int what = 0; what < 3; what++) {
                due("flatter(" + row[0] + ", " + row[1] + ", " + what + ")", x.flatter(row[0], row[1], what), row[2 + what]);
            }
        }
        CHECK.throwsArgument("flatter(-1, 0, 0)", () -> x.flatter(-1, 0, 0));
        CHECK.throwsArgument("flatter(100, 0, 0)", () -> x.flatter(100, 0, 0));
        CHECK.throwsArgument("flatter(0, -1, 0)", () -> x.flatter(0, -1, 0));
        CHECK.throwsArgument("flatter(0, 100, 0)", () -> x.flatter(0, 100, 0));
        CHECK.throwsArgument("flatter(0, 0, 3)", () -> x.flatter(0, 0, 3));
        CHECK.throwsArgument("flatter(0, 0, -1)", () -> x.flatter(0, 0, -1));
    }

    private static void breath() {
        PraiseLift x = Check.housed("man 0 1 0;man 0 1 0;man 0 1 0;man 0 1 0;card 5 0;card 12 0;card 20 0;");
        Check.work(x, "say 0 0;say 1 1;say 2 2;");
        // prides 5 12 20 0
        int[][] want = {{0, 0, 0, 0}, {2, 0, 0, 0}, {3, 1, 1, 1}, {15, 5, 5, 5}, {16, 5, 5, 5}, {17, 5, 6, 6}, {29, 5, 12, 12},
            {30, 5, 12, 13}, {36, 5, 12, 19}, {37, 5, 12, 20}, {38, 5, 12, 20}, {9999, 5, 12, 20}};
        for (int[] row : want) {
            for (int m = 0; m < 3; m++) {
                due("breath(" + m + ", 15, " + row[0] + ")", x.breath(m, 15, row[0]), row[1 + m]);
            }
        }
        PraiseLift y = Check.housed("man 0 1 0;card 1 0;card 1 0;card 1 0;");
        Check.law(y, "40");
        Check.work(y, "again 9[say 0 0;say 0 1;say 0 2;];");
        int[] bounds = {0, 1, 511, 512, 513, 767, 768, 895, 896, 899, 900};
        for (int n : bounds) {
            due("breath of 900 by " + n, y.breath(0, 1, n), n);
        }
        due("breath of 900 by 901", y.breath(0, 1, 901), 900);
        due("he has no pride", x.breath(3, 15, 9999), 0);
        due("of two", x.breath(2, 6, 20), 10);
        due("of himself", x.breath(2, 4, 13), 13);
        due("none of them", x.breath(0, 6, 20), 0);
        due("of nobody", x.breath(0, 0, 20), 0);
        CHECK.throwsNobody("breath(4, 16, -1)", () -> x.breath(4, 16, -1));
        CHECK.throwsNobody("breath(-1, 0, 0)", () -> x.breath(-1, 0, 0));
        CHECK.throwsArgument("breath(0, 16, 0)", () -> x.breath(0, 16, 0));
        CHECK.throwsArgument("breath(0, -1, 0)", () -> x.breath(0, -1, 0));
        CHECK.throwsArgument("breath(0, 1, -1)", () -> x.breath(0, 1, -1));
        CHECK.throwsArgument("breath(0, 1, 10000)", () -> x.breath(0, 1, 10000));
    }

    private static void weekIs(PraiseLift x, int[] args, int... want) {
        for (int what = 0; what < 4; what++) {
            due("week(" + args[0] + ", " + args[1] + ", " + args[2] + ", " + what + ")", x.week(args[0], args[1], args[2], what), want[what]);
        }
    }

    private static void weeks() {
        // one man, one card: nothing hangs on what is drawn
        PraiseLift x = Check.housed("floors 2;man 0 10 0;card 20 0;piano 5;");
        weekIs(x, new int[] {7, 0, 1}, 0, 1, 2, 34);
        weekIs(x, new int[] {7, 16, 1}, 0, 1, 2, 0);
        // the SEED 1 draws 16838 5758 10113, 17515 31051 5627, 23010 7419 16212, 4086 2749 12767
        PraiseLift y = Check.housed("floors 4;man 0 10 5;man 1 20 0;card 10 9;card 6 3;piano 15;");
        weekIs(y, new int[] {1, 5, 1}, 2, 3, 3, 7);
        Check.work(y, "say 0 1;enter 0;go;leave 0;walk 0 0;");
        due("the bell rang, man 0 rode", y.told(7) + y.man(0, 6), 2);
        weekIs(y, new int[] {1, 0, 1}, 2, y.week(1, 0, 1, 1), y.week(1, 0, 1, 2), y.week(1, 0, 1, 3));
    }

    private static void longWeeks() {
        // without cards or men days go by
        PraiseLift x = Check.housed("floors 3;man 0 10 5;piano 0;");
        Check.work(x, "enter 0;go;");
        weekIs(x, new int[] {5, 16, 48}, 0, 2, 0, 0);
        due("he left at 2", x.span(5, 3, 16, 48, 2, 0), 3);
        weekIs(Check.housed("card 1 1;"), new int[] {5, 16, 48}, 0, 0, 0, 0);
        // beyond day 400 nights go by all the same: two days of one man, one card
        PraiseLift y = Check.housed("floors 2;man 0 10 0;card 20 0;piano 5;");
        Check.work(y, "again 30[again 30[night;];];");
        Check.work(y, "again 30[again 30[night;];];");
        Check.work(y, "again 30[again 30[night;];];");
        due("day 400", y.told(3), 400);
        // 34 at the first night, 34 and 68 are halved at the second
        weekIs(y, new int[] {7, 0, 2}, 0, 1, 4, 51);
    }

    private static void spans() {
        PraiseLift x = Check.housed("floors 4;man 0 10 5;man 1 20 0;card 10 9;card 6 3;piano 15;");
        due("one seed, fewest", x.span(1, 1, 5, 1, 0, 0), 3);
        due("one seed, most", x.span(1, 1, 5, 1, 1, 0), 3);
        due("one seed, man 0 is at 3", x.span(1, 1, 5, 1, 2, 0), 1);
        int[] seeds = {1, 2147483640, -5};
        for (int seed : seeds) {
            int fewest = Integer.MAX_VALUE;
            int most = 0;
            for (int i = 0; i < 10; i++) {
                int rides = x.week(seed + i, 9, 3, 2);
                fewest = Math.min(fewest, rides);
                most = Math.max(most, rides);
            }
            due("fewest from " + seed, x.span(seed, 10, 9, 3, 0, 1), fewest);
            due("most from " + seed, x.span(seed, 10, 9, 3, 1, 1), most);
        }
        due("he starts at 1 and is never taken down to 0 by so light ones", x.span(1, 10, 0, 1, 2, 1), 10);
        PraiseLift y = Check.housed("floors 4;man 0 1 0;card 1 0;piano 300;");
        due("never above 0", y.span(1, 10, 0, 1, 2, 0), 0);
    }

    private static void wrongWeeks() {
        PraiseLift x = Check.housed(HOUSE);
        CHECK.throwsArgument("week q -1", () -> x.week(1, -1, 1, 0));
        CHECK.throwsArgument("week q 17", () -> x.week(1, 17, 1, 0));
        CHECK.throwsArgument("week days 0", () -> x.week(1, 0, 0, 0));
        CHECK.throwsArgument("week days 49", () -> x.week(1, 0, 49, 0));
        CHECK.throwsArgument("week what 4", () -> x.week(1, 0, 1, 4));
        CHECK.throwsArgument("week what -1", () -> x.week(1, 0, 1, -1));
        CHECK.throwsArgument("span many 0", () -> x.span(1, 0, 0, 1, 0, 0));
        CHECK.throwsArgument("span many 11", () -> x.span(1, 11, 0, 1, 0, 0));
        CHECK.throwsArgument("span q 17", () -> x.span(1, 1, 17, 1, 0, 0));
        CHECK.throwsArgument("span q -1", () -> x.span(1, 1, -1, 1, 0, 0));
        CHECK.throwsArgument("span days 0", () -> x.span(1, 1, 0, 0, 0, 0));
        CHECK.throwsArgument("span days 49", () -> x.span(1, 1, 0, 49, 0, 0));
        CHECK.throwsArgument("span what 3", () -> x.span(1, 1, 0, 1, 3, 0));
        CHECK.throwsArgument("span what -1", () -> x.span(1, 1, 0, 1, -1, 0));
        CHECK.throwsArgument("span man 3", () -> x.span(1, 1, 0, 1, 0, 3));
        CHECK.throwsArgument("span man -1", () -> x.span(1, 1, 0, 1, 1, -1));
        due("status(0)", x.status(0), 0);
        due("status(1)", x.status(1), 16);
    }

    private static void nothingStays() {
        PraiseLift x = Check.housed(HOUSE);
        Check.work(x, "enter 0;say 0 2;go;");
        long before = picture(x);
        x.week(3, 9, 48, 0);
        x.span(3, 10, 9, 20, 2, 1);
        x.ahead(9, 0);
        x.ahead(9, 1);
        x.times(0, 0, 999);
        x.to(3);
        x.fits(0);
        x.look(0);
        due("nothing stays changed", picture(x), before);
    }

    private static long picture(PraiseLift x) {
        long sum = 0;
        for (int what = 0; what < 12; what++) {
            sum = sum * 31 + x.told(what);
        }
        for (int m = 0; m < x.told(1); m++) {
            for (int what = 0; what < 8; what++) {
                sum = sum * 31 + x.man(m, what);
            }
            for (int c = 0; c < x.told(2); c++) {
                sum = sum * 31 + x.heard(m, c);
            }
        }
        return sum;
    }
}
