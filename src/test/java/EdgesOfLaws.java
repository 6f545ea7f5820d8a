/** Boundary cases of the LAW among the terms. */
final class EdgesOfLaws {
    private static final Edges.Text LAW = Edges.Text.LAW;
    // 512 * 512 * 512 * 16 is 2 to the 31st: the least number of 32 bits
    private static final String LEAST = "512*512*512*16";
    private static final String LEAST_BY_32 = "(512*512*256)";
    private final Edges e;

    EdgesOfLaws(Edges e) {
        this.e = e;
    }

    void run() {
        bytes();
        wholeText();
        without();
        bounds();
        numbers();
        facts();
        wraps();
        divides();
        byZero();
        open();
    }

    /** praise 10, true 2, vanity 3, weight 50, pride 77, heard 4, rides 31, floor 11, man 6. */
    private static int would(PraiseLift x) {
        return x.would(10, 2, 3, 50, 77, 4, 31, 11, 6);
    }

    private void lawIs(String text, int swell) {
        e.due("would by '" + text + "'", would(e.fine(LAW, text, 1)), swell);
    }

    private void bytes() {
        e.says(Edges.TERMS, "A LAW is a text of up to 150 bytes");
        lawIs(" 5" + "+0".repeat(74), 5);
        lawIs("0" + "+0".repeat(73) + "+6 ", 6);
        lawIs("0+(".repeat(6) + "0+".repeat(62) + "7)))))) ", 7);
        lawIs(" ".repeat(149) + "8", 8);
        lawIs("9" + " ".repeat(149), 9);
        lawIs("7", 7);
        PraiseLift x = Edges.settled();
        Check.feed(x, "5".repeat(160));
        e.due("law(151) of 160 bytes (2 IllegalArgumentException)", Check.thrown(() -> x.law(151)), 2);
        e.due("the tape stays", x.count(1), 160);
    }

    private void wholeText() {
        e.says(Edges.TERMS, "E, at the end nothing more");
        lawIs("5   ", 5);
        e.fault(LAW, "5 5", 1, 2);
        e.fault(LAW, "5;", 1, 1);
        e.fault(LAW, "5)", 1, 1);
        e.fault(LAW, "5]", 1, 1);
        e.fault(LAW, "5,5", 1, 1);
        e.fault(LAW, "5 praise", 1, 2);
        e.fault(LAW, "(5)(5)", 1, 3);
        e.fault(LAW, "least[5,5]5", 1, 10);
        e.fault(LAW, "", 1, 0);
        e.fault(LAW, "  ", 1, 2);
    }

    private void without() {
        e.says(Edges.TERMS, "without: praise + vanity - heard * 2.");
        PraiseLift x = new PraiseLift();
        e.due("by a new object", would(x), 10 + 3 - 4 * 2);
        e.due("all of praise", x.would(20, 0, 9, 1, 0, 0, 0, 0, 0), 29);
        e.due("alike", x.would(9, 9, 9, 60, 900, 9, 999, 11, 6), 0);
        e.due("1 more", x.would(10, 9, 9, 60, 900, 9, 999, 11, 6), 1);
        e.due("below", x.would(1, 9, 0, 60, 900, 9, 999, 11, 6), 0);
        Check.law(x, "7");
        Check.house(x, "");
        e.due("by a house behind a law", would(x), 5);
    }

    private void bounds() {
        e.says(Edges.TERMS, "what comes out, 0 at least, 40 at most.");
        lawIs("0", 0);
        lawIs("1", 1);
        lawIs("0-1", 0);
        lawIs("0-999", 0);
        lawIs("39", 39);
        lawIs("40", 40);
        lawIs("41", 40);
        lawIs("999*999", 40);
        lawIs(LEAST, 0);
        lawIs(LEAST + "-1", 40);
        // only what comes out is held, not what stands on the way
        lawIs("999-980", 19);
        lawIs("0-5+9", 4);
        lawIs("least[999,500]-490", 10);
        lawIs("most[0-9,0-5]+9", 4);
    }

    private void numbers() {
        e.says(Edges.TERMS, "N (0 to 999)");
        lawIs("0", 0);
        lawIs("999-962", 37);
        lawIs("0000999-962", 37);
        lawIs("00000000000", 0);
        e.fault(LAW, "1000", 2, 0);
        e.fault(LAW, "001000", 2, 0);
        e.fault(LAW, "7+1000", 2, 2);
        e.fault(LAW, "4294967296", 2, 0);
        e.fault(LAW, "18446744073709551616", 2, 0);
        e.fault(LAW, "9".repeat(150), 2, 0);
        lawIs("0".repeat(149) + "7", 7);
    }

    private void facts() {
        e.says(Edges.TERMS, "\"pride\" (of the MAN by now), \"heard\" (how often he heard this CARD by now), \"rides\" (his by now)");
        PraiseLift x = Check.housed("man 0 1 0;man 0 60 0;card 1 0;card 1 0;piano 0;");
        Check.law(x, "pride");
        e.due("no pride yet", x.swells(0, 0), 0);
        Check.law(x, "7");
        Check.work(x, "again 9[say 0 1;];");
        Check.law(x, "pride-30");
        e.due("63 by now", x.swells(0, 0), 33);
        e.due("the other one has none", x.swells(1, 0), 0);
        Check.law(x, "heard");
        e.due("9 times by now", x.swells(0, 1), 9);
        e.due("not this card", x.swells(0, 0), 0);
        Check.law(x, "rides");
        Check.work(x, "enter 1;go;go;go;");
        e.due("3 rides by now", x.swells(1, 0), 3);
        e.due("not his", x.swells(0, 0), 0);
        for (int work = 0; work < 14; work++) {
            Check.work(x, "again 30[go;go;go;go;go;go;go;];");
        }
        Check.law(x, "rides-999-999-769");
        e.due("3 and 14 times 199, more than would() takes", x.swells(1, 0), 22);
        e.says(Edges.TERMS, "\"floor\" (where he is)");
        Check.law(x, "floor");
        e.due("in the lift, where it is", x.swells(1, 0), 5);
        e.due("outside, where he is", x.swells(0, 0), 0);
        e.says(Edges.TERMS, "\"man\" (his number)");
        Check.law(x, "man");
        e.due("number 0", x.swells(0, 0), 0);
        e.due("number 1", x.swells(1, 0), 1);
    }

    private void wraps() {
        e.says(Edges.TERMS, "Values are whole numbers of 32 bits that wrap");
        lawIs(LEAST + "/" + LEAST_BY_32, 0);
        lawIs("0-" + LEAST + "/" + LEAST_BY_32, 32);
        lawIs("(" + LEAST + "-1)/" + LEAST_BY_32, 31);
        lawIs("(" + LEAST + "-1+1)/" + LEAST_BY_32 + "+33", 1);
        lawIs("0-(0-" + LEAST + ")/" + LEAST_BY_32, 32);
        lawIs("512*512*512*512*5+3", 3);
        // 999 to the 4th, 996005996001, is -426416671 in 32 bits
        lawIs("0-(999*999*999*999)/500/500/50", 34);
        lawIs("most[" + LEAST + "," + LEAST + "-1]", 40);
        lawIs("least[" + LEAST + "," + LEAST + "-1]", 0);
    }

    private void divides() {
        e.says(Edges.TERMS, "/ cuts, % leaves (with the sign of what is divided)");
        lawIs("19/10", 1);
        lawIs("10+(0-19)/10", 9);
        lawIs("10+19/(0-10)", 9);
        lawIs("10+(0-19)/(0-10)", 11);
        lawIs("9/10", 0);
        lawIs("10+(0-9)/10", 10);
        lawIs("19%10", 9);
        lawIs("10+(0-19)%10", 1);
        lawIs("10+19%(0-10)", 19);
        lawIs("10+(0-19)%(0-10)", 1);
        lawIs("20%10", 0);
        // the least number by -1 is itself, and leaves nothing
        lawIs("0-" + LEAST + "/(0-1)/" + LEAST_BY_32, 32);
        lawIs("5+(" + LEAST + ")%(0-1)", 5);
    }

    private void byZero() {
        e.says(Edges.TERMS, "by 0 both are 0.");
        lawIs("7+5/0", 7);
        lawIs("7+5%0", 7);
        lawIs("7+0/0", 7);
        lawIs("7+0%0", 7);
        lawIs("7+(0-5)/0", 7);
        lawIs("7+5/(praise-praise)", 7);
        lawIs("7+5%(praise-10)", 7);
        lawIs("7+5/0/0", 7);
        lawIs("9/0+9%0", 0);
        lawIs("7+(" + LEAST + ")/0", 7);
    }

    private void open() {
        e.says(Edges.TERMS, "or a 7th of ( least most again that is open at one time");
        lawIs("((((((7))))))", 7);
        e.fault(LAW, "(((((((7)))))))", 3, 6);
        lawIs("least[".repeat(6) + "7" + ",8]".repeat(6), 7);
        e.fault(LAW, "least[".repeat(7) + "7", 3, 36);
        lawIs("most[1,".repeat(6) + "7" + "]".repeat(6), 7);
        e.fault(LAW, "most[1,".repeat(6) + " most[1,7", 3, 43);
        lawIs("((least[most[(least[7,8]),1],9]))", 7);
        e.fault(LAW, "((least[most[(least[(7", 3, 20);
        e.fault(LAW, "((least[most[(least[7,(8", 3, 22);
        e.fault(LAW, "((((((least", 3, 6);
        e.fault(LAW, "(((((( most ", 3, 7);
        // those that are closed are not open any more
        lawIs("((((((7))))))+((((((8))))))", 15);
        lawIs("(((((least[1,2]+least[1,2]+most[1,2]+(3))))))", 7);
        lawIs("(1)+(1)+(1)+(1)+(1)+(1)+(1)+(1)", 8);
    }
}
