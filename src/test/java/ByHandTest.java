/** Answers worked out by hand from the sentences of the document, without the help of the reference model. */
public final class ByHandTest {
    public static void main(String[] args) {
        TicksByHand.check();
        SharesByHand.check();
        GamingByHand.check();
        KillsByHand.check();
        PredictionsByHand.check();
        Check.end();
    }
}
