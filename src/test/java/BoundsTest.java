/** The boundary cases that the document's sentences name, promise by promise; -Dtell=true names those that hold too. */
public final class BoundsTest {
    public static void main(String[] args) {
        TapeBounds.all();
        TextBounds.all();
        FaultBounds.all();
        TurnBounds.all();
        CostBounds.all();
        AskingBounds.all();
        CountBounds.all();
        Desk.finish();
    }
}
