/** Each sentence of the document that names a bound: the last that is taken, the first that is refused, what stays. */
public final class BoundsTest {
    public static void main(String[] args) {
        Bounds b = new Bounds();
        TapeBounds.test(b);
        TextBounds.test(b);
        SortBounds.test(b);
        OfferBounds.test(b);
        ThoughtBounds.test(b);
        MendBounds.test(b);
        LawBounds.test(b);
        SheetBounds.test(b);
        Refusals.test(b);
        b.end();
    }
}
