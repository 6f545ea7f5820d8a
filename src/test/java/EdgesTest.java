import java.io.IOException;

/** Each sentence of the document that names a boundary case, promise by promise, with what is due by it. */
public final class EdgesTest {
    public static void main(String[] args) throws IOException, IllegalAccessException {
        Edges e = new Edges();
        new EdgesOfHouses(e).run();
        new EdgesOfLaws(e).run();
        new EdgesOfWorks(e).run();
        new EdgesOfFaults(e).run();
        new EdgesOfTexts(e).run();
        new EdgesOfAnswers(e).run();
        new EdgesOfAsked(e).run();
        new EdgesOfWeeks(e).run();
        new EdgesOfKept(e).run();
        new EdgesOfFace(e).run();
        e.end("EdgesTest");
    }
}
