/** Promises 24 to 29 and 32 to 35. */
final class TickTests {
    private TickTests() {
    }

    static void run() {
        tickAndTime();
        endOfTime();
        steps();
        picks();
    }

    private static void tickAndTime() {
        ShelfSwarm x = new ShelfSwarm();
        Check.due("25: at first", x.time(), 0);
        Check.due("24: nothing is picked", x.tick(1), 0);
        Check.due("25: one", x.time(), 1);
        x.tick(50);
        Check.due("25: fifty more", x.time(), 51);
        int[] wrong = {0, -1, 51, Integer.MAX_VALUE, Integer.MIN_VALUE};
        for (int ticks : wrong) {
            Check.refusedArgument("24: tick(" + ticks + ")", x, () -> x.tick(ticks));
        }
        ShelfSwarm y = Scene.serving(100, 50);
        Check.due("24: one a tick", y.tick(1), 1);
        Check.due("24: seven in seven", y.tick(7), 7);
        Check.due("24: all that is left", y.tick(50), 42);
        Check.due("24: nothing more", y.tick(50), 0);
    }

    private static void endOfTime() {
        ShelfSwarm x = new ShelfSwarm();
        for (int i = 0; i < 59; i++) {
            x.tick(50);
        }
        x.tick(49);
        Check.due("25: nearly the end", x.time(), 2999);
        Check.refusedState("24: above 3000", x, () -> x.tick(2));
        Check.refusedState("24: far above 3000", x, () -> x.tick(50));
        Check.refusedArgument("24: out of range first", x, () -> x.tick(51));
        x.tick(1);
        Check.due("25: the end", x.time(), 3000);
        Check.refusedState("24: behind the end", x, () -> x.tick(1));
        Check.refusedArgument("24: 0 at the end", x, () -> x.tick(0));
    }

    private static void steps() {
        ShelfSwarm x = new ShelfSwarm();
        x.addStation(4);
        x.addTray(2, 0, 1);
        x.addRobot(0, 0);
        Scene.ordered(x, 0, 0, 1);
        x.tick(1);
        Check.due("26: one", x.steps(), 1);
        x.tick(3);
        Check.due("26: to the station", x.steps(), 4);
        x.tick(9);
        Check.due("26: and home", x.steps(), 6);
    }

    private static void picks() {
        ShelfSwarm x = new ShelfSwarm();
        x.addStation(0);
        x.addStation(10);
        x.addTray(0, 0, 9);
        x.addTray(10, 1, 9);
        x.addRobot(10, 0);
        x.addRobot(0, 0);
        x.addOrder();
        x.addOrder();
        x.addLine(1, 0, 2);
        x.addLine(0, 1, 3);
        x.claim(0, 1, 0);
        x.claim(1, 0, 0);
        Check.refusedIndex("33: none yet", x, () -> x.pickedFrom(0));
        Check.due("24: they serve then", x.tick(2), 0);
        Check.due("24: two", x.tick(1), 2);
        Check.due("24: two and one", x.tick(9), 3);
        Check.due("32: all", x.picks(), 5);
        int[] from = {1, 0, 1, 0, 1};
        int[] in = {3, 3, 4, 4, 5};
        for (int pick = 0; pick < 5; pick++) {
            Check.due("33: pick " + pick, x.pickedFrom(pick), from[pick]);
            Check.due("34: pick " + pick, x.pickedFor(pick), 1 - from[pick]);
            Check.due("35: pick " + pick, x.pickedIn(pick), in[pick]);
        }
        int[] wrong = {-1, 5, Integer.MAX_VALUE, Integer.MIN_VALUE};
        for (int pick : wrong) {
            Check.refusedIndex("33: pickedFrom(" + pick + ")", x, () -> x.pickedFrom(pick));
            Check.refusedIndex("34: pickedFor(" + pick + ")", x, () -> x.pickedFor(pick));
            Check.refusedIndex("35: pickedIn(" + pick + ")", x, () -> x.pickedIn(pick));
        }
    }
}
