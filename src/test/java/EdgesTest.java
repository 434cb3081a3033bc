/** All promises, sentence by sentence: each edge that a sentence of the document names has rows of its own. */
public final class EdgesTest {
    public static void main(String[] args) {
        FaceEdges.all();
        RefusalEdges.all();
        StageEdges.all();
        BlowEdges.all();
        TextEdges.all();
        CutEdges.all();
        ShowEdges.all();
        RowEdges.all();
        for (String rest : Sentences.unnamed()) {
            Due.is("no test names " + rest, 1, 0);
        }
        Due.end();
    }
}
