/** Every sentence of the document, quoted from it, with the calls that hold it; words that no test quotes are told. */
public final class DocumentTest {
    public static void main(String[] args) {
        Bounds b = new Bounds();
        FaceSentences.test(b);
        Meanings.test(b);
        TapeBounds.test(b);
        TextBounds.test(b);
        SortBounds.test(b);
        OfferBounds.test(b);
        ThoughtBounds.test(b);
        MendBounds.test(b);
        LawBounds.test(b);
        SheetBounds.test(b);
        Refusals.test(b);
        b.end();
    }
}
