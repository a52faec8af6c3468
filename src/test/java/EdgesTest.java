import java.nio.file.Path;
import java.util.List;

/** Every edge that the document names, by its own words; what no test quotes of it is a failure too. */
public final class EdgesTest {
    public static void main(String[] args) {
        Check check = new Check();
        Document document = new Document(Path.of("../shared/DOC.md"));
        List<Edges> all = List.of(
            new LandEdges(check, document),
            new TextEdges(check, document),
            new FaultEdges(check, document),
            new SightEdges(check, document),
            new ActEdges(check, document),
            new QuestionEdges(check, document),
            new ForecastEdges(check, document),
            new StateCallEdges(check, document),
            new QuestionCallEdges(check, document));
        for (Edges edges : all) {
            edges.all();
        }
        check.same("promises", 41, document.promises());
        for (String words : document.unquoted()) {
            check.same("no test quotes '" + words + "', which", 0, 1);
        }
        check.end("EdgesTest");
    }
}
