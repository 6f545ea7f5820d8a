/** Promises 9 to 14 and 26 to 37: who is where, how heavy, how much a word weighs. */
public final class AnswersTest {
    private static final String HOUSE = "floors 5;man 0 30 4;man 0 50 7;man 2 20 0;card 10 5;card 4 9;card 20 1;piano 60;";
    private static final Check CHECK = new Check();

    public static void main(String[] args) {
        told();
        men();
        cards();
        words();
        would();
        heaviest();
        places();
        sweetest();
        lacks();
        proud();
        liked();
        rides();
        times();
        empty();
        CHECK.end("AnswersTest");
    }

    private static void due(String what, long got, long want) {
        CHECK.due(what, got, want);
    }

    /** Men 0 and 1 in the lift at 4, man 0 proud by 24, both rode once, the bell rang once. */
    private static PraiseLift busy() {
        PraiseLift x = Check.housed(HOUSE);
        Check.work(x, "enter 0;enter 2;say 0 2;enter 1;go;");
        return x;
    }

    private static void told() {
        PraiseLift x = busy();
        Check.book(x, "1 50;");
        int[] want = {5, 3, 3, 0, 4, 3, 104, 1, 60, 1, 1, 4};
        for (int what = 0; what < want.length; what++) {
            due("told(" + what + ")", x.told(what), want[what]);
        }
        Check.work(x, "leave 0;");
        due("told(11) down", x.told(11), 2);
        Check.work(x, "night;");
        due("told(3) a day later", x.told(3), 1);
        due("told(11) of an empty lift", x.told(11), 4);
        CHECK.throwsArgument("told(-1)", () -> x.told(-1));
        CHECK.throwsArgument("told(12)", () -> x.told(12));
    }

    private static void men() {
        PraiseLift x = busy();
        int[][] want = {{4, 30, 4, 24, 54, 1, 1, 4}, {4, 50, 7, 0, 50, 1, 1, 5}, {2, 20, 0, 0, 20, 0, 0, 0}};
        for (int m = 0; m < 3; m++) {
            for (int what = 0; what < 8; what++) {
                due("man(" + m + ", " + what + ")", x.man(m, what), want[m][what]);
            }
        }
        CHECK.throwsNobody("man(3, 0)", () -> x.man(3, 0));
        CHECK.throwsNobody("man(-1, 9): nobody ahead of others", () -> x.man(-1, 9));
        CHECK.throwsArgument("man(0, 8)", () -> x.man(0, 8));
        CHECK.throwsArgument("man(0, -1)", () -> x.man(0, -1));
    }

    private static void cards() {
        PraiseLift x = busy();
        Check.work(x, "say 1 2;say 2 2;say 2 0;");
        int[][] want = {{10, 5, 1}, {4, 9, 0}, {20, 1, 3}};
        for (int c = 0; c < 3; c++) {
            for (int what = 0; what < 3; what++) {
                due("card(" + c + ", " + what + ")", x.card(c, what), want[c][what]);
            }
        }
        CHECK.throwsNobody("card(3, 0)", () -> x.card(3, 0));
        CHECK.throwsNobody("card(-1, 3)", () -> x.card(-1, 3));
        CHECK.throwsArgument("card(0, 3)", () -> x.card(0, 3));
        CHECK.throwsArgument("card(0, -1)", () -> x.card(0, -1));
    }

    private static void words() {
        PraiseLift x = busy();
        Check.work(x, "say 2 0;say 2 0;");
        due("heard", x.heard(2, 0), 2);
        due("not heard", x.heard(2, 1), 0);
        due("by one", x.heard(0, 2), 1);
        CHECK.throwsNobody("heard(3, 0)", () -> x.heard(3, 0));
        CHECK.throwsNobody("heard(0, 3)", () -> x.heard(0, 3));
        CHECK.throwsNobody("heard(-1, 0)", () -> x.heard(-1, 0));
        CHECK.throwsNobody("heard(0, -1)", () -> x.heard(0, -1));
        due("swells", x.swells(0, 2), 22);
        due("swells another", x.swells(1, 2), 27);
        Check.law(x, "true*100+floor*10+rides-400-man");
        due("true 5, floor 4, rides 1, man 1", x.swells(1, 0), 40);
        Check.law(x, "weight-pride+rides+floor*2-man-vanity-heard");
        due("30 24 1 8 0 4 1", x.swells(0, 2), 30 - 24 + 1 + 8 - 4 - 1);
        due("20 18 0 4 2 0 2", x.swells(2, 0), 20 - 18 + 4 - 2 - 2);
        due("capped", x.swells(1, 0), 40);
        CHECK.throwsNobody("swells(3, 0)", () -> x.swells(3, 0));
        CHECK.throwsNobody("swells(0, 3)", () -> x.swells(0, 3));
    }

    private static void would() {
        PraiseLift x = new PraiseLift();
        int[] least = {1, 0, 0, 1, 0, 0, 0, 0, 0};
        int[] most = {20, 9, 9, 60, 900, 9, 999, 11, 6};
        String[] facts = {"praise", "true", "vanity", "weight", "pride", "heard", "rides", "floor", "man"};
        for (int i = 0; i < 9; i++) {
            Check.law(x, facts[i]);
            due("would least " + facts[i], wouldBy(x, least), least[i]);
            due("would most " + facts[i], wouldBy(x, most), Math.min(40, most[i]));
            int fact = i;
            CHECK.throwsArgument("would below " + facts[i], () -> wouldBy(x, with(least, fact, least[fact] - 1)));
            CHECK.throwsArgument("would above " + facts[i], () -> wouldBy(x, with(least, fact, most[fact] + 1)));
        }
    }

    private static int wouldBy(PraiseLift x, int[] w) {
        return x.would(w[0], w[1], w[2], w[3], w[4], w[5], w[6], w[7], w[8]);
    }

    private static int[] with(int[] row, int i, int value) {
        int[] copy = row.clone();
        copy[i] = value;
        return copy;
    }

    private static void heaviest() {
        PraiseLift x = busy();
        due("heaviest", x.heaviest(0), 0);
        due("how heavy", x.heaviest(1), 54);
        PraiseLift y = Check.housed("man 0 5 0;man 0 9 0;man 0 9 0;");
        due("the first of alike ones", y.heaviest(0), 1);
        CHECK.throwsArgument("heaviest(2)", () -> x.heaviest(2));
        CHECK.throwsArgument("heaviest(-1)", () -> x.heaviest(-1));
    }

    private static void places() {
        PraiseLift x = Check.housed("floors 4;man 0 1 0;man 0 1 0;man 0 1 0;man 0 1 0;man 0 1 0;man 2 1 0;man 3 1 0;piano 0;");
        due("waiting", x.waiting(), 31);
        Check.work(x, "enter 1;enter 2;enter 3;");
        due("3 are in it", x.waiting(), 17);
        Check.work(x, "enter 0;");
        due("4 are in it", x.waiting(), 0);
        due("floor 0", x.floor(0), 16);
        due("floor 1", x.floor(1), 0);
        due("floor 2", x.floor(2), 32);
        due("floor 3", x.floor(3), 64);
        due("vacant", x.vacant(), 2);
        Check.work(x, "go;");
        due("they are at 1 now", x.vacant(), 0);
        due("not in the lift alone", x.floor(1), 0);
        due("above who is in the lift", x.above(1), 96);
        due("above who is at 0", x.above(4), 111);
        due("above who is at 3", x.above(6), 0);
        Check.work(x, "leave 2;");
        due("waiting at 1", x.waiting(), 4);
        due("he is at 1", x.floor(1), 4);
        CHECK.throwsArgument("floor(4)", () -> x.floor(4));
        CHECK.throwsArgument("floor(-1)", () -> x.floor(-1));
        CHECK.throwsNobody("above(7)", () -> x.above(7));
        CHECK.throwsNobody("above(-1)", () -> x.above(-1));
    }

    private static void sweetest() {
        PraiseLift x = Check.housed("man 0 1 5;man 0 1 9;man 0 1 0;card 3 4;card 9 4;card 9 4;card 2 5;card 2 6;card 1 5;");
        due("sweetest", x.sweetest(0, 0), 1);
        due("how sweet", x.sweetest(0, 1), 14);
        due("truest", x.truest(0, 0), 3);
        due("how much", x.truest(0, 1), 7);
        due("all are lies", x.truest(1, 0), -1);
        due("all are lies, how much", x.truest(1, 1), -1);
        due("none is a lie", x.truest(2, 0), 1);
        due("lies", x.man(0, 7), 7);
        Check.work(x, "again 9[say 0 1;];say 0 2;");
        due("the other one", x.sweetest(0, 0), 2);
        Check.law(x, "heard");
        due("heard 9 times counts", x.sweetest(0, 0), 1);
        Check.law(x, "0");
        due("0 is something", x.sweetest(0, 0), 0);
        due("true 0 is something", x.truest(0, 0), 3);
        due("how much is 0", x.truest(0, 1), 0);
        CHECK.throwsNobody("sweetest(3, 2)", () -> x.sweetest(3, 2));
        CHECK.throwsArgument("sweetest(0, 2)", () -> x.sweetest(0, 2));
        CHECK.throwsArgument("sweetest(0, -1)", () -> x.sweetest(0, -1));
        CHECK.throwsNobody("truest(-1, 2)", () -> x.truest(-1, 2));
        CHECK.throwsArgument("truest(0, 2)", () -> x.truest(0, 2));
        CHECK.throwsArgument("truest(0, -1)", () -> x.truest(0, -1));
    }

    private static void lacks() {
        PraiseLift x = Check.housed(HOUSE);
        due("lacks all", x.lacks(), 61);
        Check.work(x, "enter 0;");
        due("lacks 31", x.lacks(), 31);
        Check.work(x, "enter 1;");
        due("lacks nothing", x.lacks(), -19);
    }

    private static void proud() {
        PraiseLift x = Check.housed("man 0 14 4;man 0 13 4;man 0 1 4;card 10 0;");
        due("nobody", x.proud(0), 0);
        Check.work(x, "say 0 0;say 1 0;");
        due("two have pride", x.proud(0), 3);
        due("14 is more than 13", x.proud(1), 2);
        CHECK.throwsArgument("proud(2)", () -> x.proud(2));
        CHECK.throwsArgument("proud(-1)", () -> x.proud(-1));
    }

    private static void liked() {
        PraiseLift x = Check.housed("man 0 14 4;man 0 13 6;man 0 1 6;card 10 0;card 1 0;");
        due("the first of the vain", x.liked(0), 1);
        Check.work(x, "say 1 0;");
        due("he heard it", x.liked(0), 2);
        due("he did not hear that", x.liked(1), 1);
        CHECK.throwsNobody("liked(2)", () -> x.liked(2));
        CHECK.throwsNobody("liked(-1)", () -> x.liked(-1));
    }

    private static void rides() {
        PraiseLift x = Check.housed(HOUSE);
        int[] want = {0, 0, 0, 3, 0, 0, 2, 4};
        // 50 and 20 are 10 more than 60: by 1, and 1
        for (int set = 0; set < 8; set++) {
            due("ride(" + set + ")", x.ride(set), want[set]);
        }
        Check.work(x, "enter 0;enter 1;go;");
        due("from where it is", x.ride(4), 0);
        due("its own", x.ride(0), 3);
        due("of other floors", x.ride(5), 1);
        PraiseLift y = Check.housed("floors 12;man 0 9 0;man 0 9 0;man 0 9 0;man 0 9 0;man 0 9 0;piano 0;");
        due("more than 4", y.ride(31), 5);
        CHECK.throwsArgument("ride(8)", () -> x.ride(8));
        CHECK.throwsArgument("ride(-1)", () -> x.ride(-1));
        CHECK.throwsArgument("ride(9)", () -> x.ride(9));
    }

    private static void times() {
        PraiseLift x = Check.housed(HOUSE);
        // 10 8 6 4 2 and 0s
        int[][] want = {{0, 0}, {20, 0}, {21, 1}, {30, 1}, {31, 2}, {38, 2}, {44, 3}, {45, 4}, {48, 4}, {50, 5}, {51, -1}, {999, -1}};
        for (int[] row : want) {
            due("times(2, 0, " + row[0] + ")", x.times(2, 0, row[0]), row[1]);
        }
        Check.work(x, "again 7[say 2 0;];");
        due("already so heavy", x.times(2, 0, 50), 0);
        Check.law(x, "pride");
        // 30 more, then 40
        due("by pride", x.times(2, 0, 80), 1);
        due("by pride twice", x.times(2, 0, 81), 2);
        due("by pride at most", x.times(2, 0, 120), 2);
        due("no third time", x.times(2, 0, 121), -1);
        due("nothing stays", x.man(2, 3), 30);
        due("nothing heard", x.heard(2, 0), 7);
        CHECK.throwsNobody("times(3, 0, 1000)", () -> x.times(3, 0, 1000));
        CHECK.throwsNobody("times(0, 3, -1)", () -> x.times(0, 3, -1));
        CHECK.throwsArgument("times(0, 0, 1000)", () -> x.times(0, 0, 1000));
        CHECK.throwsArgument("times(0, 0, -1)", () -> x.times(0, 0, -1));
    }

    private static void empty() {
        PraiseLift x = new PraiseLift();
        due("heaviest of none", x.heaviest(0), -1);
        due("how heavy none", x.heaviest(1), -1);
        due("waiting none", x.waiting(), 0);
        due("vacant all", x.vacant(), 63);
        due("proud none", x.proud(1), 0);
        Check.house(x, "man 0 1 1;");
        due("no card is sweet", x.sweetest(0, 0), -1);
        due("no card is sweet, how much", x.sweetest(0, 1), -1);
        due("no card is true", x.truest(0, 0), -1);
        Check.house(x, "card 1 1;");
        due("liked by none", x.liked(0), -1);
        due("heard by none", x.card(0, 2), 0);
    }
}
