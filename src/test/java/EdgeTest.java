/**
 * The boundary cases, promise by promise: the last input that is still taken and the first that is not, what is
 * empty and what is full, and that a refused call has changed nothing. No object of these hears more than 512 calls.
 */
public final class EdgeTest {
    public static void main(String[] args) {
        TapeEdges.run();
        TextEdges.run();
        CueEdges.run();
        AxisEdges.run();
        SeatEdges.run();
        MoneyEdges.run();
        WayEdges.run();
        Refusals.run();
        Check.eachPromise();
        Check.end();
    }
}
