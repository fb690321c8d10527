/** Every sentence of the document that names an edge has a test of its own, and none is forgotten. */
public final class EdgesTest {
    /** Words of the terms that name no edge, or that others say once more. */
    private static final String[] NO_EDGE = {
        "Said once more:",
        "Ahead of the calls `roof`, `width`, `heap`, `lap`, `rowOf` the interface says: ---- roofs.",
        "Ahead of the calls `slate`, `joint`, `may`, `judge`, `lay`, `takeUp` the interface says: ---- rows laid.",
        "Ahead of the calls `fills`, `first`, `best`, `cuts`, `uses`, `needs`, `ends`, `gaps`, `two`, `all`, `broken`, "
            + "`by` the interface says: ---- ways.",
        "Ahead of the calls `image`, `restore`, `count` the interface says: ---- the image, what is told.",
        "Ahead of the calls `keep`, `row`, `put`, `element`, `copy`, `toil`, `toss` the interface says: ---- shelves."};

    public static void main(String[] args) {
        Check check = new Check();
        Document document = new Document();
        Edges edges = new Edges(check, document);
        new RoofEdges(edges).all();
        new RowsLaidEdges(edges).all();
        new WaysEdges(edges).all();
        new ByEdges(edges).all();
        new ImageEdges(edges).all();
        new ShelvesEdges(edges).all();
        new RefusalEdges(edges).all();
        for (String words : NO_EDGE) {
            check.due("the document says " + words, document.pass(words));
        }
        for (String words : document.unquoted()) {
            check.due("a test quotes " + words, false);
        }
        check.finish("EdgesTest");
    }
}
