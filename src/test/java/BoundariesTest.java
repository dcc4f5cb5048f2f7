/**
 * Each sentence of the document that names a boundary, promise by promise: the last value that is
 * taken, the first one that is not, nothing at all, as much as fits and one more, where a number
 * begins anew, and what is refused. Each line that fails names the promise and the sentence. With
 * -Ddoc=(the document) every quote is looked up in it, and every cause of a refusal must be quoted.
 */
public final class BoundariesTest {
    private BoundariesTest() {
    }

    public static void main(String[] args) {
        Edges01To05.hold();
        Edges06To13.hold();
        Edges14To21.hold();
        Edges22To32.hold();
        Edges33To38.hold();
        Edges39To46.hold();
        Edges47To53.hold();
        EdgesOfCodes.hold();
        EdgesOfRefusals.hold();
        if (Edges.finish(System.getProperty("doc")) > 0) {
            System.exit(1);
        }
    }
}
