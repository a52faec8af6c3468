/** Tests of the document's edges, each called by the words that tell the edge. */
abstract class Edges {
    final Check check;
    private final Document document;
    private String heading = "";

    Edges(Check check, Document document) {
        this.check = check;
        this.document = document;
    }

    abstract void all();

    final void under(String next) {
        heading = next;
    }

    /** A test of what these words of the document say. */
    final void of(String words, Runnable test) {
        check.about("");
        check.same("under '" + heading + "' stands '" + words + "'", 1, document.quote(heading, words));
        check.about(heading + ", '" + words + "': ");
        long before = check.asked();
        test.run();
        if (check.asked() == before) {
            check.same("nothing was asked", 1, 0);
        }
        check.about("");
    }

    final Run fresh() {
        return new Run(check);
    }

    final Run land(String text) {
        return fresh().with(text);
    }

    /** What a villa alone in the land's first cell owes by a law. */
    final void law(long want, String expr) {
        check.same("tax " + expr, want, land("villa 0 0 0;tax " + expr + ";").call("house", 0, 7));
    }

    /** Trees of 1 in the first cells of a land 8 wide. */
    static String trees(int many) {
        StringBuilder s = new StringBuilder();
        for (int i = 0; i < many; i++) {
            s.append("tree ").append(i % 8).append(' ').append(i / 8).append(" 1 1;");
        }
        return s.toString();
    }

    /** Houses of all kinds in the first row of a land 8 wide. */
    static String houses(int many) {
        String[] kinds = {"villa ", "inn ", "blind "};
        StringBuilder s = new StringBuilder();
        for (int i = 0; i < many; i++) {
            s.append(kinds[i % 3]).append(i).append(" 0 7;");
        }
        return s.toString();
    }
}
