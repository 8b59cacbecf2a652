/** Runs every test of the project. */
public final class AllTests {
    private AllTests() {
    }

    public static void main(String[] args) {
        FaceTest.run();
        HoldTest.run();
        LotsTest.run();
        TextsTest.run();
        BreaksTest.run();
        ReadingsTest.run();
        LayingTest.run();
        DrivingTest.run();
        MarketTest.run();
        FarmsTest.run();
        RingTest.run();
        PlanTest.run();
        TellingTest.run();
        OracleTest.run();
        EdgesTest.run();
        HoldEdgesTest.run();
        LotEdgesTest.run();
        TextEdgesTest.run();
        BreakEdgesTest.run();
        ReadingEdgesTest.run();
        WorkEdgesTest.run();
        TradeEdgesTest.run();
        TellingEdgesTest.run();
        AnyCallTest.run();
        System.out.println(Due.passed + " passed, " + Due.failed + " failed");
        if (Due.failed != 0) {
            System.exit(1);
        }
    }
}
