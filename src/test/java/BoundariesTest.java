import java.io.IOException;
import java.util.List;

/** Each sentence of the document, with a test of its own for the bounds that it names. */
public final class BoundariesTest {
    private BoundariesTest() {
    }

    public static void main(String[] args) throws IOException {
        Check check = new Check("BoundariesTest");
        Sentences sentences = new Sentences(check);
        List<Bounds> all = List.of(
            new AssetBounds(sentences, check), new ShotTerms(sentences, check), new ShotBounds(sentences, check),
            new EditBounds(sentences, check), new RenderTerms(sentences, check), new MachineBounds(sentences, check),
            new NoteBounds(sentences, check), new RuleBounds(sentences, check));
        for (Bounds each : all) {
            each.all();
        }
        sentences.end();
        check.end();
    }
}
