/** Promises 1 to 8: a new object, the tape, the four texts with their faults, undo. */
public final class TextsTest {
    private static final String HOUSE = "floors 5;man 0 30 4;man 0 50 7;man 2 20 0;card 10 5;card 4 9;card 20 1;piano 60;";
    private static final Check CHECK = new Check();

    public static void main(String[] args) {
        newObject();
        tape();
        wrongLengths();
        houses();
        houseFaults();
        laws();
        lawFaults();
        works();
        workFaults();
        books();
        undone();
        CHECK.end("TextsTest");
    }

    private static void due(String what, long got, long want) {
        CHECK.due(what, got, want);
    }

    private static void newObject() {
        PraiseLift x = new PraiseLift();
        int[] told = {6, 0, 0, 0, 0, 0, 0, 0, 100, 0, 0, 0};
        for (int what = 0; what < told.length; what++) {
            due("new told(" + what + ")", x.told(what), told[what]);
        }
        due("new fault", x.fault(), -1);
        due("new tape", x.count(1), 0);
        due("NONE", PraiseLift.NONE, -1);
    }

    private static void tape() {
        PraiseLift x = new PraiseLift();
        // "pian" "o  7" ";" : the highest byte of each number first
        due("feed", x.feed(0x7069616e, 0x6f202037, 0x3b202020, 0, 0x80ffffff), 20);
        due("house by bytes", x.house(10), 0);
        due("piano by bytes", x.told(8), 7);
        for (int i = 1; i <= 30; i++) {
            due("feed " + i, x.feed(0x20202020, 0x20202020, 0x20202020, 0x20202020, 0x20202020), 20 * i);
        }
        due("feed beyond 600", x.feed(1, 2, 3, 4, 5), -1);
        due("tape full", x.count(1), 600);
        due("house of 600 blanks", x.house(600), 0);
        due("tape empty then", x.count(1), 0);
        Check.feed(x, "piano 9;floors 3;");
        due("house of a part", x.house(8), 0);
        due("the rest is gone", x.count(1), 0);
        due("part: piano", x.told(8), 9);
        due("part: floors", x.told(0), 6);
    }

    private static void wrongLengths() {
        PraiseLift x = new PraiseLift();
        Check.law(x, "x");
        for (int i = 0; i < 10; i++) {
            Check.feed(x, "                    ");
        }
        CHECK.throwsArgument("house(-1)", () -> x.house(-1));
        CHECK.throwsArgument("house(201)", () -> x.house(201));
        CHECK.throwsArgument("law(-1)", () -> x.law(-1));
        CHECK.throwsArgument("law(151)", () -> x.law(151));
        CHECK.throwsArgument("work(-1)", () -> x.work(-1));
        CHECK.throwsArgument("work(151)", () -> x.work(151));
        CHECK.throwsArgument("book(-1)", () -> x.book(-1));
        CHECK.throwsArgument("book(61)", () -> x.book(61));
        CHECK.throwsArgument("house(most)", () -> x.house(Integer.MAX_VALUE));
        due("tape stays", x.count(1), 200);
        due("fault stays", x.fault(), 0);
        due("status(1)", x.status(1), 9);
        due("law(150) of blanks", x.law(150), -9);
        due("its fault at the length", x.fault(), 150);
        CHECK.throwsArgument("law(1) without tape", () -> x.law(1));
        Check.feed(x, " ".repeat(60));
        due("book(60) of blanks", x.book(60), 0);
        Check.feed(x, " ".repeat(160));
        due("work(150) of blanks", x.work(150), 0);
    }

    private static void houses() {
        PraiseLift x = Check.housed("  floors12 ; floors 0003;piano5;man2 60 9;man 0 1 0 ;card20 9;piano 300;card 1 0;  ");
        due("house fault", x.fault(), -1);
        int[] told = {3, 2, 2, 0, 0, 0, 0, 0, 300, 0, 0, 0};
        for (int what = 0; what < told.length; what++) {
            due("house told(" + what + ")", x.told(what), told[what]);
        }
        int[] man = {2, 60, 9, 0, 60, 0, 0, 2};
        for (int what = 0; what < man.length; what++) {
            due("house man(0, " + what + ")", x.man(0, what), man[what]);
        }
        due("house card P", x.card(0, 0), 20);
        due("house card T", x.card(0, 1), 9);
        Check.law(x, "3");
        Check.book(x, "0 60;");
        Check.work(x, "enter 0;say 0 0;enter 1;");
        x.image();
        due("refused ahead of the new house", x.told(10), 1);
        due("a fault leaves all", Check.house(x, "floors 2;man 0 1 1;oops"), -9);
        due("still 2 men", x.told(1), 2);
        due("still its law", x.swells(1, 0), 3);
        due("still its image", x.count(0), 1);
        due("still its work", x.count(2), 1);
        due("still refused", x.told(10), 1);
        due("tape empty behind a fault", x.count(1), 0);
        due("a new house", Check.house(x, HOUSE), 3);
        due("no law", x.swells(0, 0), 14);
        due("no book", x.told(9), 0);
        due("no image", x.count(0), 0);
        due("nothing to undo", x.undo(), -1);
        due("nothing refused", x.told(10), 0);
        due("nobody in it", x.told(5), 0);
        due("no pride", x.proud(0), 0);
        due("an empty house", Check.house(x, ""), 0);
        due("floors without", x.told(0), 6);
        due("piano without", x.told(8), 100);
        StringBuilder many = new StringBuilder("floors 12;");
        for (int i = 0; i < 7; i++) {
            many.append("man ").append(i).append(" 1 0;");
        }
        for (int i = 0; i < 8; i++) {
            many.append("card 1 0;");
        }
        due("7 men and 8 cards", Check.house(x, many.toString()), 7);
        due("60 clauses", Check.house(x, "piano0;".repeat(60)), 0);
        due("8 cards were there", x.told(2), 0);
    }

    private static void houseFault(String text, int kind, int place) {
        PraiseLift x = new PraiseLift();
        due("house '" + text + "'", Check.house(x, text), kind - 10);
        due("fault of '" + text + "'", x.fault(), place);
    }

    private static void houseFaults() {
        houseFault("floors", 1, 6);
        houseFault("floors  ", 1, 8);
        houseFault("floors x;", 1, 7);
        houseFault("floors 3", 1, 8);
        houseFault("floors 3 4;", 1, 9);
        houseFault("floor 3;", 1, 0);
        houseFault("floorss 3;", 1, 0);
        houseFault("  Floors 3;", 1, 2);
        houseFault(";", 1, 0);
        houseFault("piano 1;;", 1, 8);
        houseFault("5", 1, 0);
        houseFault("piano -1;", 1, 6);
        houseFault("" + (char) 225, 1, 0);
        houseFault("piano 1;" + (char) 0, 1, 8);
        houseFault("floors 1;", 2, 7);
        houseFault("floors 13;", 2, 7);
        houseFault("floors 99999999999999999999;", 2, 7);
        houseFault("floors 4294967298;", 2, 7);
        houseFault("floors 2;floors 4;man 4 1 0;", 2, 22);
        houseFault("man 6 1 0;", 2, 4);
        houseFault("man 0 0 0;", 2, 6);
        houseFault("man 0 61 0;", 2, 6);
        houseFault("man 0 60 10;", 2, 9);
        houseFault("man 0 60;", 1, 8);
        houseFault("card 0 0;", 2, 5);
        houseFault("card 21 0;", 2, 5);
        houseFault("card 20 10;", 2, 8);
        houseFault("piano 301;", 2, 6);
        houseFault("man 0 1 0; floors 3;", 3, 11);
        houseFault("man 0 1 0;floors 1;", 3, 10);
        houseFault("man 0 1 0;".repeat(7) + " man 9 9 9;", 3, 71);
        houseFault("card 1 0;".repeat(8) + "card", 3, 72);
        houseFault("piano0;".repeat(60) + "piano0;", 3, 420);
        houseFault("piano0;".repeat(60) + "card", 3, 420);
        houseFault("piano0;".repeat(60) + "pian;", 1, 420);
        houseFault("piano0;".repeat(60) + " 7", 1, 421);
        houseFault("piano 301;man 9 1 1;", 2, 6);
    }

    private static int would(PraiseLift x) {
        return x.would(10, 2, 3, 50, 77, 4, 31, 11, 6);
    }

    private static void lawIs(String text, int swell) {
        PraiseLift x = new PraiseLift();
        due("law '" + text + "'", Check.law(x, text), 1);
        due("fault of '" + text + "'", x.fault(), -1);
        due("would by '" + text + "'", would(x), swell);
    }

    private static void laws() {
        due("would without a law", would(new PraiseLift()), 10 + 3 - 8);
        lawIs("praise", 10);
        lawIs("true", 2);
        lawIs("vanity", 3);
        lawIs("weight-20", 30);
        lawIs("pride - 70", 7);
        lawIs("heard", 4);
        lawIs("rides", 31);
        lawIs("floor", 11);
        lawIs("man", 6);
        lawIs("  007  ", 7);
        lawIs("999", 40);
        lawIs("0-1", 0);
        lawIs("40", 40);
        lawIs("41", 40);
        lawIs("20-5-3", 12);
        lawIs("2+3*4", 14);
        lawIs("(2+3)*4", 20);
        lawIs("100/7/2", 7);
        lawIs("17%5*3", 6);
        lawIs("7/2*2", 6);
        lawIs("30-7/2", 27);
        lawIs("30+(0-7)/2", 27);
        lawIs("30+(0-7)%3", 29);
        lawIs("30+7%(0-3)", 31);
        lawIs("5/0+6", 6);
        lawIs("5%0+6", 6);
        lawIs("least[praise,3]", 3);
        lawIs("most [ praise , 3 ] + 1", 11);
        lawIs("least[3,3]+most[0-9,0-8]+9", 4);
        lawIs("least[most[1,2],most[3,4]]", 2);
        lawIs("((((((9))))))", 9);
        lawIs("least[least[least[least[least[least[9,8],8],8],8],8],8]", 8);
        lawIs("(9)+(8)+(7)+(1)+(1)+(1)+(1)", 28);
        // 2147483647 + 1 wraps; the least number by -1 is itself
        lawIs("(512*512*512*16-1+1)/(512*512*512*8)+9", 7);
        lawIs("0-(512*512*512*16)/(0-1)/(512*512*512*8)", 2);
        lawIs("(512*512*512*16)%(0-1)+5", 5);
        lawIs("0-999*999*999*999/999/999/20", 21);
        PraiseLift x = Check.housed(HOUSE);
        Check.law(x, "floor+man");
        due("a fault leaves the law", Check.law(x, "7+"), -9);
        due("by the old law", x.swells(2, 0), 4);
        due("another law", Check.law(x, "9"), 1);
        due("by the other law", x.swells(2, 0), 9);
    }

    private static void lawFault(String text, int kind, int place) {
        PraiseLift x = new PraiseLift();
        due("law '" + text + "'", Check.law(x, text), kind - 10);
        due("fault of '" + text + "'", x.fault(), place);
        due("would behind '" + text + "'", would(x), 5);
    }

    private static void lawFaults() {
        lawFault("", 1, 0);
        lawFault("   ", 1, 3);
        lawFault("-1", 1, 0);
        lawFault("1+", 1, 2);
        lawFault("1+ ", 1, 3);
        lawFault("1 2", 1, 2);
        lawFault("praisevanity", 1, 0);
        lawFault("1praise", 1, 1);
        lawFault("mans", 1, 0);
        lawFault("manz", 1, 0);
        lawFault("mana", 1, 0);
        lawFault("man{", 1, 3);
        lawFault("man`", 1, 3);
        lawFault("5/", 1, 2);
        lawFault("5:", 1, 1);
        lawFault("3;", 1, 1);
        lawFault("(1", 1, 2);
        lawFault("(1]", 1, 2);
        lawFault("()", 1, 1);
        lawFault("1)", 1, 1);
        lawFault("least", 1, 5);
        lawFault("least(1,2)", 1, 5);
        lawFault("least[1]", 1, 7);
        lawFault("least[1,2", 1, 9);
        lawFault("least[1,2,3]", 1, 9);
        lawFault("least[,2]", 1, 6);
        lawFault("1*/2", 1, 2);
        lawFault("1000", 2, 0);
        lawFault("5 + 00001000 x", 2, 4);
        lawFault("5 + 1000*(", 2, 4);
        lawFault("(((((( (1", 3, 7);
        lawFault("((((((least[1,2]", 3, 6);
        lawFault("((((((most", 3, 6);
        lawFault("((((((1(", 1, 7);
        lawFault("((((((mostly", 1, 6);
        lawFault("least[1,most[1,least[1,most[1,least[1,most[1,(1", 3, 45);
    }

    private static void works() {
        PraiseLift x = Check.housed(HOUSE);
        due("work", Check.work(x, " enter0;enter 02 ; say 0 2;enter 1;go;say 1 1;leave 0;walk 0 1;insult 1;leave 2; "), 8);
        due("work refused", x.told(10), 2);
        due("work's lift", x.told(4), 4);
        due("refused again", Check.work(x, "leave 0;leave 2;walk 0 1;insult 1;"), 0);
        due("4 refused", x.told(10), 4);
        due("a fault does nothing", Check.work(x, "go;night;leave 1;oops;"), -9);
        due("still the lift", x.told(4), 4);
        due("still 4 refused", x.told(10), 4);
        due("still 2 works", x.count(2), 2);
        due("nothing refused now", Check.work(x, ""), 0);
        due("0 refused", x.told(10), 0);

        entering();
        saying();
        insulting();
        going();
        nights();
        loops();
        tooManyWorks();
    }

    private static void entering() {
        PraiseLift x = Check.housed("man 0 1 0;man 0 1 0;man 0 1 0;man 0 1 0;man 0 1 0;man 1 1 0;piano 0;");
        due("not at its floor", Check.work(x, "enter 5;"), 0);
        due("twice", Check.work(x, "enter 0;enter 0;"), 1);
        due("4 at most", Check.work(x, "enter 1;enter 2;enter 3;enter 4;"), 3);
        due("those in it", x.told(5), 15);
        due("in it he can't walk", Check.work(x, "walk 0 3;"), 0);
        due("they ride to 1", Check.work(x, "go;leave 0;leave 0;enter 5;"), 3);
        due("where he left", x.man(0, 0), 1);
        due("5 in it", x.told(5), 46);
        due("walk there", Check.work(x, "walk 4 5;walk 4 5;walk 4 0;"), 2);
        due("walked", x.man(4, 0), 0);
    }

    private static void saying() {
        PraiseLift x = Check.housed("man 0 60 5;man 3 1 4;card 10 4;card 1 9;");
        due("say", Check.work(x, "say 0 0;say 0 0;say 1 0;say 1 1;"), 4);
        due("pride by turns", x.man(0, 3), 15 + 13);
        due("others' pride", x.man(1, 3), 14 + 5);
        due("only lies ring", x.told(7), 2);
        due("9 times", Check.work(x, "again 9[say 0 0;];"), 7);
        due("2 refused", x.told(10), 2);
        due("heard 9", x.heard(0, 0), 9);
        due("bell 9", x.told(7), 9);
        // 15 13 11 9 7 5 3 1 0
        due("pride of 9", x.man(0, 3), 64);
        Check.law(x, "40");
        due("beyond 900", Check.work(x, "again 9[say 1 0;say 1 1;];"), 16);
        due("pride 659", x.man(1, 3), 19 + 16 * 40);
        PraiseLift y = Check.housed("man 0 60 0;card 1 0;card 1 0;card 1 0;");
        Check.law(y, "40");
        Check.work(y, "again 9[say 0 0;say 0 1;say 0 2;];");
        due("900 at most", y.man(0, 3), 900);
        due("heavy 960", y.man(0, 4), 960);
    }

    private static void insulting() {
        PraiseLift x = Check.housed("floors 9;man 0 10 0;man 0 10 0;card 5 0;piano 20;");
        due("no pride", Check.work(x, "insult 0;"), 0);
        due("outside", Check.work(x, "say 0 0;enter 1;insult 0;"), 3);
        due("the lift stays", x.told(4), 0);
        due("no pride left", x.man(0, 3), 0);
        due("inside", Check.work(x, "enter 0;say 1 0;insult 1;"), 3);
        due("the piano is down", x.told(4), 8);
        due("with all in it", x.man(0, 0), 8);
        due("still heard", x.heard(1, 0), 1);
        due("nobody rode", x.man(1, 6), 0);
    }

    private static void goingTo(String house, int from, int level) {
        PraiseLift x = Check.housed(house);
        Check.work(x, "say 0 0;enter 0;insult 0;leave 0;");
        due("at the top", x.told(4), 11);
        Check.work(x, "enter 0;");
        due("goes by " + house, x.told(11), level);
        Check.work(x, "go;");
        due("went by " + house, x.told(4), level);
        due("from", from, 11);
    }

    private static void going() {
        PraiseLift x = Check.housed(HOUSE);
        due("nobody in it", Check.work(x, "go;"), 0);
        String man = "floors 12;card 9 0;man 0 ";
        goingTo(man + "30 0;piano 30;", 11, 11);
        goingTo(man + "30 0;piano 31;", 11, 10);
        goingTo(man + "30 0;piano 39;", 11, 10);
        goingTo(man + "30 0;piano 40;", 11, 9);
        goingTo(man + "1 0;piano 100;", 11, 1);
        goingTo(man + "1 0;piano 300;", 11, 0);
        int[][] up = {{30, 0}, {29, 1}, {21, 1}, {20, 2}, {11, 2}, {10, 3}, {0, 4}};
        for (int[] row : up) {
            PraiseLift y = Check.housed("floors 5;man 0 30 0;piano " + row[0] + ";");
            Check.work(y, "enter 0;go;");
            due("up against " + row[0], y.told(4), row[1]);
            due("rode against " + row[0], y.man(0, 6), 1);
        }
        PraiseLift z = Check.housed("floors 3;man 0 60 0;man 0 60 0;piano 0;");
        due("up to the last", Check.work(z, "enter 0;go;go;enter 1;"), 3);
        due("the last", z.told(4), 2);
        due("rode twice", z.man(0, 6), 2);
        due("he did not", z.man(1, 6), 0);
    }

    private static void nights() {
        PraiseLift x = Check.housed("man 0 10 1;man 0 60 1;card 14 0;piano 10;");
        due("night", Check.work(x, "say 0 0;enter 1;go;say 1 0;again 2[say 1 0;];night;"), 7);
        due("half of 15", x.man(0, 3), 7);
        due("half of 39", x.man(1, 3), 19);
        due("the day", x.told(3), 1);
        due("all out", x.told(5), 0);
        due("where the lift is", x.man(1, 0), 5);
        due("the lift stays", x.told(4), 5);
        due("nothing heard", x.heard(1, 0), 0);
        due("rides stay", x.man(1, 6), 1);
        due("the bell stays", x.told(7), 4);
        PraiseLift y = Check.housed(HOUSE);
        due("200 steps", Check.work(y, "again 30[again 30[night;];];"), 192);
        due("192 days", y.told(3), 192);
        due("none refused", y.told(10), 0);
        due("200 more", Check.work(y, "again 30[again 30[night;];];"), 192);
        due("from day 400 on", Check.work(y, "again 30[again 30[night;];];"), 16);
        due("176 refused", y.told(10), 176);
        due("day 400", y.told(3), 400);
        due("no night", Check.work(y, "night;"), 0);
    }

    private static void loops() {
        PraiseLift x = Check.housed("man 0 1 0;card 1 0;floors 2;");
        due("floors behind a man: no house", x.told(1), 0);
        x = Check.housed("floors 2;man 0 1 0;card 1 0;");
        due("again 0", Check.work(x, "again 0[walk 0 1;];"), 0);
        due("nothing refused", x.told(10), 0);
        due("empty again", Check.work(x, "again 30[];again 30 [ ] ;walk 0 1;"), 1);
        due("again in again", Check.work(x, "again 3[walk 0 0;again 2[walk 0 1;];];"), 6);
        due("3 refused", x.told(10), 3);
        due("200 begun, 199 of them steps", Check.work(x, "again 30[walk 0 0;walk 0 1;walk 0 0;walk 0 1;walk 0 0;walk 0 1;walk 0 0;walk 0 1;];"), 199);
        due("the last one was to 0", x.man(0, 0), 0);
        due("refused ones count", Check.work(x, "again 30[leave 0;leave 0;leave 0;leave 0;leave 0;leave 0;leave 0;];walk 0 1;"), 0);
        due("199 refused", x.told(10), 199);
        due("agains count", Check.work(x, "again 30[again 0[];again 0[];again 0[];again 0[];again 0[];again 0[];again 0[];];walk 0 1;"), 0);
        due("none refused", x.told(10), 0);
        due("6 deep", Check.work(x, "again 1[again 1[again 1[again 1[again 1[again 1[walk 0 1;];];];];];];"), 1);
    }

    private static void tooManyWorks() {
        PraiseLift x = Check.housed(HOUSE);
        for (int i = 1; i <= 16; i++) {
            due("work " + i, Check.work(x, "walk 2 " + (i % 2) + ";leave 2;"), 1);
            due("works", x.count(2), i);
        }
        Check.law(x, "oops");
        due("a 17th", Check.work(x, "walk 2 4;"), -20);
        due("no fault", x.fault(), -1);
        due("tape empty", x.count(1), 0);
        due("nothing done", x.man(2, 0), 0);
        due("told(10) stays", x.told(10), 1);
        due("not read", Check.work(x, "oops"), -20);
        due("no fault of it", x.fault(), -1);
        CHECK.throwsArgument("a wrong n ahead of -20", () -> x.work(1));
        due("undo makes room", x.undo(), 15);
        due("a 16th", Check.work(x, "walk 2 4;"), 1);
    }

    private static void workFault(String text, int kind, int place) {
        PraiseLift x = Check.housed(HOUSE);
        due("work '" + text + "'", Check.work(x, text), kind - 10);
        due("fault of '" + text + "'", x.fault(), place);
        due("works behind '" + text + "'", x.count(2), 0);
    }

    private static void workFaults() {
        workFault("go", 1, 2);
        workFault("go ", 1, 3);
        workFault("goes;", 1, 0);
        workFault("go 1;", 1, 3);
        workFault("go;;", 1, 3);
        workFault("enter;", 1, 5);
        workFault("enter 0", 1, 7);
        workFault("say 0;", 1, 5);
        workFault("night;]", 1, 6);
        workFault("again[go;];", 1, 5);
        workFault("again 2 go;", 1, 8);
        workFault("again 2[go;]", 1, 12);
        workFault("again 2[go];", 1, 10);
        workFault("again 2[go;", 1, 11);
        workFault("again 2[go; 5", 1, 12);
        workFault("enter 3;", 2, 6);
        workFault("leave 3;", 2, 6);
        workFault("say 3 0;", 2, 4);
        workFault("say 0 3;", 2, 6);
        workFault("insult 3;", 2, 7);
        workFault("walk 3 0;", 2, 5);
        workFault("walk 0 5;", 2, 7);
        workFault("again 31[];", 2, 6);
        workFault("again 0[enter 3;];", 2, 14);
        workFault("again 1[".repeat(6) + " again 31[", 3, 49);
        workFault("again 1[".repeat(6) + "again", 3, 48);
        workFault("again 1[".repeat(6) + "agai", 1, 48);
        PraiseLift x = new PraiseLift();
        due("no man", Check.work(x, "enter 0;"), -8);
        due("no man's place", x.fault(), 6);
    }

    private static void books() {
        PraiseLift x = Check.housed(HOUSE);
        due("book", Check.book(x, " 2 0;0 999 ; 1 50 ; "), 3);
        due("lines", x.told(9), 3);
        bookFault(x, "3 0;", 2, 0);
        bookFault(x, "0 1000;", 2, 2);
        bookFault(x, "0 1;00 2;", 2, 4);
        bookFault(x, "0 1;1 3; 0 1000", 2, 9);
        bookFault(x, "0;", 1, 1);
        bookFault(x, "0 1", 1, 3);
        bookFault(x, "0 1 2;", 1, 4);
        bookFault(x, "man 0;", 1, 0);
        bookFault(x, "0 x;", 1, 2);
        due("another book", Check.book(x, "1 1;"), 1);
        due("1 line", x.told(9), 1);
        due("empty book", Check.book(x, ""), 0);
        due("0 lines", x.told(9), 0);
        PraiseLift y = new PraiseLift();
        due("no man", Check.book(y, "0 1;"), -8);
    }

    private static void bookFault(PraiseLift x, String text, int kind, int place) {
        due("book '" + text + "'", Check.book(x, text), kind - 10);
        due("fault of '" + text + "'", x.fault(), place);
        due("lines stay", x.told(9), 3);
    }

    private static void undone() {
        PraiseLift x = Check.housed(HOUSE);
        due("nothing to undo", x.undo(), -1);
        Check.work(x, "say 0 2;enter 0;enter 1;go;night;");
        Check.work(x, "say 1 2;say 1 2;insult 0;leave 1;walk 2 0;walk 0 1;");
        Check.law(x, "7");
        Check.book(x, "0 1;");
        due("undo", x.undo(), 1);
        due("no law undone", x.swells(0, 0), 7);
        due("no book undone", x.told(9), 1);
        due("refused 0", x.told(10), 0);
        due("pride is back", x.man(0, 3), 12);
        due("unheard", x.heard(1, 2), 0);
        due("bell", x.told(7), 1);
        due("day", x.told(3), 1);
        due("floor", x.man(0, 0), 4);
        due("rode", x.man(1, 6), 1);
        due("undo the first", x.undo(), 0);
        due("day 0", x.told(3), 0);
        due("lift", x.told(4), 0);
        due("bell 0", x.told(7), 0);
        due("not rode", x.man(1, 6), 0);
        due("none left", x.undo(), -1);
    }
}
