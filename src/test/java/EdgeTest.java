/** All promises, sentence by sentence: the edges that the document names, on both sides of them. */
public final class EdgeTest {
    public static void main(String[] args) {
        TermEdges.run();
        PlayEdges.run();
        PlayerEdges.run();
        TextEdges.run();
        CastEdges.run();
        FewestEdges.run();
        CastingEdges.run();
        VoiceEdges.run();
        SheetEdges.run();
        ImageEdges.run();
        ToldEdges.run();
        int sum = 0;
        for (int promise = 1; promise <= Doc.PROMISES; promise++) {
            int sentences = Due.sentences(promise);
            sum += sentences;
            Due.is("promise " + promise + " has tests", sentences > 0 ? 1 : 0, 1);
        }
        System.out.println(sum + " sentences of " + Doc.PROMISES + " promises");
        Due.end();
    }
}
