/** Promises 40 to 43: images, refusals and counts. */
public final class KeptTest {
    private static final String HOUSE = "floors 5;man 0 30 4;man 0 50 7;man 2 20 0;card 10 5;card 4 9;card 20 1;piano 60;";
    private static final Check CHECK = new Check();

    public static void main(String[] args) {
        images();
        worksInImages();
        imagesAndTexts();
        sharedWorks();
        refusals();
        counts();
        CHECK.end("KeptTest");
    }

    private static void due(String what, long got, long want) {
        CHECK.due(what, got, want);
    }

    private static void images() {
        PraiseLift x = Check.housed(HOUSE);
        due("nothing to restore", x.restore(), -1);
        due("image 1", x.image(), 1);
        Check.work(x, "say 0 2;enter 0;enter 1;go;night;");
        due("image 2", x.image(), 2);
        Check.work(x, "walk 2 0;walk 2 0;");
        due("image 3", x.image(), 3);
        due("no image 4", x.image(), -1);
        due("3 images", x.count(0), 3);
        Check.work(x, "again 3[say 1 0;];night;walk 0 0;");
        due("restore the third", x.restore(), 2);
        due("day 1", x.told(3), 1);
        due("man 2 walked", x.man(2, 0), 0);
        due("man 0 did not", x.man(0, 0), 4);
        due("no pride of man 1", x.man(1, 3), 0);
        due("restore the second", x.restore(), 1);
        due("he did not walk", x.man(2, 0), 2);
        due("the bell", x.told(7), 1);
        due("the lift", x.told(4), 4);
        due("rode", x.man(0, 6), 1);
        due("restore the first", x.restore(), 0);
        due("day 0", x.told(3), 0);
        due("the bell did not ring", x.told(7), 0);
        due("not rode", x.man(0, 6), 0);
        due("no more", x.restore(), -1);
    }

    private static void worksInImages() {
        PraiseLift x = Check.housed(HOUSE);
        Check.work(x, "walk 0 1;leave 0;");
        Check.work(x, "walk 0 2;leave 0;leave 1;");
        x.image();
        due("refused 2", x.told(10), 2);
        due("both undone", x.undo() + x.undo(), 1);
        due("refused 0 behind undo", x.told(10), 0);
        Check.work(x, "walk 0 3;leave 0;");
        Check.work(x, "walk 0 4;leave 0;");
        Check.work(x, "walk 0 0;leave 0;");
        due("refused 1", x.told(10), 1);
        due("restored", x.restore(), 0);
        due("refused 0 behind restore", x.told(10), 0);
        due("2 works", x.count(2), 2);
        due("at 2", x.man(0, 0), 2);
        due("undo the second", x.undo(), 1);
        due("at 1", x.man(0, 0), 1);
        due("undo the first", x.undo(), 0);
        due("at 0", x.man(0, 0), 0);
        Check.work(x, "walk 0 1;leave 0;");
        due("nothing to restore", x.restore(), -1);
        due("refused stays", x.told(10), 1);
    }

    private static void imagesAndTexts() {
        PraiseLift x = Check.housed(HOUSE);
        x.image();
        Check.law(x, "7");
        Check.book(x, "0 1;1 2;");
        Check.feed(x, "night;");
        x.restore();
        due("law stays", x.swells(0, 0), 7);
        due("book stays", x.told(9), 2);
        due("tape stays", x.count(1), 20);
        x.work(6);
        x.image();
        Check.house(x, HOUSE);
        due("a house has no images", x.restore(), -1);
    }

    /** What an image keeps is not changed by what is done, undone and done again. */
    private static void sharedWorks() {
        PraiseLift x = Check.housed(HOUSE);
        for (int i = 1; i <= 16; i++) {
            Check.work(x, "walk 2 " + (i % 5) + ";say 2 0;");
        }
        due("pride of 5 words", x.man(2, 3), 30);
        x.image();
        x.image();
        for (int i = 0; i < 12; i++) {
            x.undo();
        }
        for (int i = 0; i < 12; i++) {
            Check.work(x, "night;");
        }
        due("16 again", x.count(2), 16);
        x.restore();
        due("no day", x.told(3), 0);
        for (int i = 15; i >= 0; i--) {
            due("undo to " + i, x.undo(), i);
        }
        due("nothing heard", x.heard(2, 0), 0);
        due("man 2 at 2", x.man(2, 0), 2);
        x.restore();
        due("16 works of the first image", x.count(2), 16);
        due("heard 9", x.heard(2, 0), 9);
    }

    private static void refusals() {
        PraiseLift x = Check.housed(HOUSE);
        due("status(0)", x.status(0), 0);
        due("status(1)", x.status(1), 0);
        x.image();
        CHECK.throwsNobody("man(3, 99)", () -> x.man(3, 99));
        CHECK.throwsNobody("times(0, 9, -1)", () -> x.times(0, 9, -1));
        CHECK.throwsArgument("told(99)", () -> x.told(99));
        CHECK.throwsArgument("house(1)", () -> x.house(1));
        CHECK.throwsArgument("span(1, 1, 1, 1, 1, 9)", () -> x.span(1, 1, 1, 1, 1, 9));
        due("2 of nobody", x.status(0), 2);
        due("3 of arguments", x.status(1), 3);
        due("others", x.status(2), -1);
        due("others below", x.status(-1), -1);
        x.restore();
        due("no image keeps it", x.status(0), 2);
        due("no image keeps that", x.status(1), 3);
        Check.work(x, "walk 0 1;");
        x.undo();
        due("nothing undoes it", x.status(1), 3);
        Check.house(x, "");
        due("behind another house", x.status(1), 3);
    }

    private static void counts() {
        PraiseLift x = Check.housed(HOUSE);
        due("images", x.count(0), 0);
        due("bytes", x.count(1), 0);
        due("works", x.count(2), 0);
        Check.feed(x, "night;                     ");
        x.image();
        due("1 image", x.count(0), 1);
        due("40 bytes", x.count(1), 40);
        x.work(6);
        due("0 bytes", x.count(1), 0);
        due("1 work", x.count(2), 1);
        due("others", x.count(3), -1);
        due("others below", x.count(-1), -1);
    }
}
