/** Runs all tests of the project; ends with exit code 1 if one fails. */
public final class AllTests {
    private AllTests() {
    }

    public static void main(String[] args) throws Exception {
        FaceTests.run();
        LanguageTests.run();
        ReadmeTests.run();
        FloorTests.run();
        FloorBounds.run();
        StockTests.run();
        StockBounds.run();
        RobotTests.run();
        RobotBounds.run();
        TickTests.run();
        TickBounds.run();
        PointTests.run();
        PointBounds.run();
        TrafficTests.run();
        TermsBounds.run();
        ModelTests.run(400);
        System.out.println("own checks: " + Check.right + " right, " + Check.wrong + " wrong");
        if (Check.wrong != 0) {
            System.exit(1);
        }
    }
}
