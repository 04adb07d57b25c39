import java.nio.file.Path;

/** Each sentence of the document by cases of its own: what is too small, too large, empty, full, refused. */
public final class EdgeTest {
    private EdgeTest() {
    }

    public static void main(String[] args) throws Exception {
        Edge.runAll(TextEdges.class);
        Edge.runAll(WallEdges.class);
        Edge.runAll(YearEdges.class);
        Edge.runAll(SearchEdges.class);
        Edge.runAll(ImageEdges.class);
        Edge.holdAgainst(Path.of("../shared/DOC.md"));
        System.out.println("EdgeTest: " + Edge.cases() + " cases");
        System.exit(Talk.allRight("EdgeTest") ? 0 : 1);
    }
}
