/** Each sentence of the document with the edges that it names, in the document's order. */
public final class DocumentTest {
    public static void main(String[] args) {
        TermSentences.tryAll();
        FilterSentences.tryAll();
        CodeSentences.tryAll();
        StackSentences.tryAll();
        RunSentences.tryAll();
        Sentences.end();
    }
}
