/** Each sentence of the document, at the edges that it names. */
public final class EdgesTest {
    public static void main(String[] args) {
        all();
        Due.finish();
    }

    static void all() {
        WholeEdges.all();
        TermsEdges.all();
        StepEdges.all();
        ChangeEdges.all();
        LookEdges.all();
        WhatIfEdges.all();
        TextEdges.all();
        KeepEdges.all();
        RefusedEdges.all();
        Due.endSentence();
        Due.isTrue(Document.unquoted().isEmpty(), "no test quotes " + Document.unquoted());
    }
}
