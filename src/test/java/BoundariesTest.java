/** Each sentence of the document that names a boundary case: at the boundary and on both sides of it. */
public final class BoundariesTest {
    public static void main(String[] args) {
        askAll();
        Doc.nothingIsLeft();
        Check.finish();
    }

    static void askAll() {
        AnswerBounds.all();
        TapeBounds.all();
        TokenBounds.all();
        ThreesBounds.all();
        LiesBounds.all();
        MissingBounds.all();
        DrawingsBounds.all();
        ToldBounds.all();
        RoadBounds.all();
        SheetsBounds.all();
    }
}
