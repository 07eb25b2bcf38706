/** Promises 24 to 26 and 32 to 35; their boundary cases are in TickBounds, 27 to 29 in TrafficTests. */
final class TickTests {
    private TickTests() {
    }

    static void run() {
        tickAndTime();
        steps();
        picks();
    }

    private static void tickAndTime() {
        ShelfSwarm x = new ShelfSwarm();
        Check.due("promise 25: at first", x.time(), 0);
        Check.due("promise 24: nothing is picked", x.tick(1), 0);
        Check.due("promise 25: one", x.time(), 1);
        x.tick(50);
        Check.due("promise 25: fifty more", x.time(), 51);
        ShelfSwarm y = Scene.serving(100, 50);
        Check.due("promise 24: one a tick", y.tick(1), 1);
        Check.due("promise 24: seven in seven", y.tick(7), 7);
        Check.due("promise 24: all that is left", y.tick(50), 42);
        Check.due("promise 24: nothing more", y.tick(50), 0);
    }

    private static void steps() {
        ShelfSwarm x = new ShelfSwarm();
        x.addStation(4);
        x.addTray(2, 0, 1);
        x.addRobot(0, 0);
        Scene.ordered(x, 0, 0, 1);
        x.tick(1);
        Check.due("promise 26: one", x.steps(), 1);
        x.tick(3);
        Check.due("promise 26: to the station", x.steps(), 4);
        x.tick(9);
        Check.due("promise 26: and home", x.steps(), 6);
    }

    private static void picks() {
        ShelfSwarm x = new ShelfSwarm();
        x.addStation(0);
        x.addStation(10);
        x.addTray(0, 0, 9);
        x.addTray(10, 1, 9);
        x.addRobot(10, 0);
        x.addRobot(0, 0);
        x.addOrder();
        x.addOrder();
        x.addLine(1, 0, 2);
        x.addLine(0, 1, 3);
        x.claim(0, 1, 0);
        x.claim(1, 0, 0);
        Check.due("promise 24: they serve then", x.tick(2), 0);
        Check.due("promise 24: two", x.tick(1), 2);
        Check.due("promise 24: two and one", x.tick(9), 3);
        Check.due("promise 32: all", x.picks(), 5);
        int[] from = {1, 0, 1, 0, 1};
        int[] in = {3, 3, 4, 4, 5};
        for (int pick = 0; pick < 5; pick++) {
            Check.due("promise 33: pick " + pick, x.pickedFrom(pick), from[pick]);
            Check.due("promise 34: pick " + pick, x.pickedFor(pick), 1 - from[pick]);
            Check.due("promise 35: pick " + pick, x.pickedIn(pick), in[pick]);
        }
    }
}
