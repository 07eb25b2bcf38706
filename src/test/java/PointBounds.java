/** The boundary cases of the eight points of a tick: what is empty, full, nearest, lowest, and the floor's edges. */
final class PointBounds {
    private PointBounds() {
    }

    static void run() {
        timePasses();
        lastPieces();
        nothingToFetch();
        leastToFetch();
        noDistance();
        asManyStationsAsRobots();
        cornersOfTheFloor();
        acrossTheEdges();
        noNeighbourIsOpen();
        ranksAtTheirBounds();
        asideInCorners();
        nobodyIsAside();
        oneStateATick();
        nothingIsInTheWay();
    }

    private static void timePasses() {
        Check.taken("point 1: each tick is one more", ShelfSwarm::new, x -> x.tick(1) * 0 + x.tick(2) * 0 + x.time(), 3);
        Check.taken("point 1: the picks of a tick are in its time", () -> Scene.serving(9, 9),
                x -> x.tick(1) * 0 + x.pickedIn(0) * 10 + x.time(), 33);
    }

    /** State and cell of the robot, and what is left of tray and line, behind the first pick for a station in 2. */
    private static String firstPick(int amount, int ordered) {
        ShelfSwarm x = new ShelfSwarm();
        x.addStation(2);
        x.addTray(0, 0, amount);
        x.addRobot(0, 0);
        Scene.ordered(x, 0, 0, ordered);
        Check.due("point 2: nothing is picked on the way", x.tick(3), 0);
        Check.due("point 2: one piece", x.tick(1), 1);
        return x.state(0) + " in " + x.cellOf(0) + ", " + x.amount(0) + " and " + x.left(0, 0);
    }

    private static void lastPieces() {
        Check.due("point 2: neither was the last", firstPick(2, 2), "3 in 2, 1 and 1");
        Check.due("point 2: the last of the line", firstPick(9, 1), "4 in 1, 8 and 0");
        Check.due("point 2: the last in the tray", firstPick(1, 9), "4 in 1, 0 and 8");
        Check.due("point 2: the last of both", firstPick(1, 1), "4 in 1, 0 and 0");
        Check.due("point 2: the greatest tray and line", firstPick(100, 50), "3 in 2, 99 and 49");
    }

    private static ShelfSwarm station(int amount) {
        ShelfSwarm x = new ShelfSwarm();
        x.addStation(0);
        x.addTray(3, 0, amount);
        x.addRobot(5, 0);
        return x;
    }

    private static int stateAfterTick(ShelfSwarm x) {
        x.tick(1);
        return x.state(0);
    }

    private static void nothingToFetch() {
        Check.taken("point 3: no order", () -> station(9), x -> stateAfterTick(x), ShelfSwarm.IDLE);
        Check.taken("point 3: an order without lines", () -> station(9), x -> x.addOrder() + stateAfterTick(x),
                ShelfSwarm.IDLE);
        Check.taken("point 3: a line that is not claimed", () -> station(9),
                x -> x.addOrder() + x.addLine(0, 0, 1) + stateAfterTick(x), ShelfSwarm.IDLE);
        Check.taken("point 3: no tray of the good", () -> station(9),
                x -> Scene.ordered(x, 0, 1, 1) + stateAfterTick(x), ShelfSwarm.IDLE);
        Check.taken("point 3: an empty tray", () -> station(0),
                x -> Scene.ordered(x, 0, 0, 1) + stateAfterTick(x), ShelfSwarm.IDLE);
        Check.taken("point 3: no tray at all", () -> {
            ShelfSwarm x = new ShelfSwarm();
            x.addStation(0);
            x.addRobot(5, 0);
            return x;
        }, x -> Scene.ordered(x, 0, 0, 1) + stateAfterTick(x), ShelfSwarm.IDLE);
        Check.taken("point 3: no robot at all", () -> {
            ShelfSwarm x = new ShelfSwarm();
            x.addStation(0);
            x.addTray(3, 0, 9);
            return x;
        }, x -> Scene.ordered(x, 0, 0, 1) + x.tick(9) + x.steps(), 0);
        Check.taken("point 3: nothing is left of the only line", () -> Scene.serving(9, 1),
                x -> x.tick(9) * 10 + x.state(0), 10);
        Check.taken("point 3: nothing is left of the first line, so the next one", () -> Scene.serving(9, 1),
                x -> x.tick(1) * 10 + Scene.ordered(x, 0, 2, 1) + stateAfterTick(x), 11 + ShelfSwarm.BRINGING);
    }

    private static void leastToFetch() {
        Check.taken("point 3: a tray with one piece", () -> station(1),
                x -> Scene.ordered(x, 0, 0, 50) + stateAfterTick(x), ShelfSwarm.FETCHING);
        Check.taken("point 3: an empty tray that was filled", () -> station(0),
                x -> x.fill(0, 1) * 10 + Scene.ordered(x, 0, 0, 50) + stateAfterTick(x), 10 + ShelfSwarm.FETCHING);
        Check.taken("point 3: all in one cell, that is closed", () -> {
            ShelfSwarm x = new ShelfSwarm();
            x.addStation(9);
            x.addTray(9, 0, 1);
            x.addRobot(9, 0);
            x.setClosed(9, true);
            return x;
        }, x -> Scene.ordered(x, 0, 0, 1) + stateAfterTick(x) * 10 + stateAfterTick(x), 23);
        Check.taken("point 3: the nearest tray is in the station's cell", () -> station(9),
                x -> x.addTray(0, 0, 1) * 10 + Scene.ordered(x, 0, 0, 1) + x.tick(1) * 0 + x.trayOf(0), 11);
        Check.taken("point 3: the nearest robot is in the tray's home", () -> station(9),
                x -> x.addRobot(3, 0) * 10 + Scene.ordered(x, 0, 0, 1) + x.tick(1) * 0 + x.state(1), 12);
    }

    private static void noDistance() {
        Check.taken("point 3: the tray is in a closed cell", () -> station(9),
                x -> Scene.ordered(x, 0, 0, 1) + closedAt(x, 3) + stateAfterTick(x), ShelfSwarm.IDLE);
        Check.taken("point 3: the station has no way to the tray", () -> station(9),
                x -> Scene.ordered(x, 0, 0, 1) + closedAt(x, 1) + closedAt(x, 8) + stateAfterTick(x), ShelfSwarm.IDLE);
        Check.taken("point 3: the robot has no way to the tray", () -> station(9),
                x -> Scene.ordered(x, 0, 0, 1) + closedAt(x, 4) + closedAt(x, 6) + closedAt(x, 13) + stateAfterTick(x),
                ShelfSwarm.IDLE);
        Check.taken("point 3: the station is in a closed cell", () -> station(9),
                x -> Scene.ordered(x, 0, 0, 1) + closedAt(x, 0) + stateAfterTick(x), ShelfSwarm.FETCHING);
        Check.taken("point 3: the robot is in a closed cell", () -> station(9),
                x -> Scene.ordered(x, 0, 0, 1) + closedAt(x, 5) + stateAfterTick(x) * 10 + x.cellOf(0), 14);
        Check.taken("point 3: a DEAD robot is in the tray's home", () -> station(9),
                x -> Scene.ordered(x, 0, 0, 1) + x.addRobot(3, 0) + x.die(1) + stateAfterTick(x), ShelfSwarm.IDLE);
    }

    private static int closedAt(ShelfSwarm x, int cell) {
        return x.setClosed(cell, true) ? 1 : 0;
    }

    /** How many of the robots are FETCHING, if there are so many for three stations with a tray each. */
    private static String fetching(int robots) {
        ShelfSwarm x = new ShelfSwarm();
        for (int i = 0; i < 3; i++) {
            x.addStation(56 + i);
            x.addTray(48 + i, i, 9);
            Scene.ordered(x, i, i, 9);
        }
        for (int robot = 0; robot < robots; robot++) {
            x.addRobot(robot, 0);
        }
        x.tick(1);
        StringBuilder text = new StringBuilder();
        for (int robot = 0; robot < robots; robot++) {
            text.append(x.trayOf(robot)).append(' ');
        }
        return text.toString();
    }

    private static void asManyStationsAsRobots() {
        Check.due("point 3: one robot for three stations", fetching(1), "0 ");
        Check.due("point 3: two robots for three stations", fetching(2), "0 1 ");
        Check.due("point 3: three robots for three stations", fetching(3), "0 1 2 ");
        Check.due("point 3: six robots for three stations", fetching(6), "0 1 2 -1 -1 -1 ");
    }

    /** Where a robot is after one tick on its way to a tray. */
    private static int firstStep(int from, int home, int... walls) {
        ShelfSwarm x = new ShelfSwarm();
        Scene.walls(x, walls);
        x.addStation(home);
        x.addTray(home, 0, 9);
        x.addRobot(from, 0);
        Scene.ordered(x, 0, 0, 9);
        x.tick(1);
        return x.cellOf(0);
    }

    private static void cornersOfTheFloor() {
        Check.due("point 4: from 0, right before below", firstStep(0, 9), 1);
        Check.due("point 4: from 7, left before below", firstStep(7, 14), 6);
        Check.due("point 4: from 56, above before right", firstStep(56, 49), 48);
        Check.due("point 4: from 63, above before left", firstStep(63, 54), 55);
        Check.due("point 4: from 0, below, as a wall is to the right", firstStep(0, 9, 1), 8);
        Check.due("point 4: from 7, below, as a wall is to the left", firstStep(7, 14, 6), 15);
        Check.due("point 4: from 56, right, as a wall is above", firstStep(56, 49, 48), 57);
        Check.due("point 4: from 63, left, as a wall is above", firstStep(63, 54, 55), 62);
        Check.due("point 4: into 0", firstStep(1, 0), 0);
        Check.due("point 4: into 7", firstStep(15, 7), 7);
        Check.due("point 4: into 56", firstStep(57, 56), 56);
        Check.due("point 4: into 63", firstStep(55, 63), 63);
    }

    private static void acrossTheEdges() {
        Check.due("point 4: not from 7 to 8", firstStep(7, 8), 6);
        Check.due("point 4: not from 8 to 7", firstStep(8, 7), 0);
        Check.due("point 4: not from 55 to 56", firstStep(55, 56), 54);
        Check.due("point 4: not from 56 to 55", firstStep(56, 55), 48);
        Check.due("point 4: not from 3 to 59", firstStep(3, 59), 11);
        Check.due("point 4: not from 59 to 3", firstStep(59, 3), 51);
        Check.due("point 4: not from 0 to 63", firstStep(0, 63), 1);
        Check.due("point 4: not from 63 to 0", firstStep(63, 0), 55);
    }

    private static void noNeighbourIsOpen() {
        ShelfSwarm x = Scene.coming();
        Scene.close(x, true, 17, 24, 26, 33);
        x.tick(5);
        Check.due("point 4: all neighbours are closed", x.cellOf(0) * 100 + x.asked(0), 2499);
        x.setClosed(24, false);
        x.tick(1);
        Check.due("point 4: the only open neighbour", x.cellOf(0), 24);
    }

    /** Who yields when two robots meet: the one that is not above the other one. */
    private static void ranksAtTheirBounds() {
        int[][] ranks = {{0, 0, 1}, {9, 9, 1}, {0, 1, 0}, {1, 0, 1}, {8, 9, 0}, {9, 8, 1}, {0, 9, 0}, {9, 0, 1}};
        for (int[] row : ranks) {
            ShelfSwarm x = TrafficTests.meeting(row[0], row[1]);
            x.tick(1);
            Check.due("point 5: the ranks " + row[0] + " and " + row[1], Scene.asks(x, 2), row[2] == 1 ? "4 -1" : "-1 3");
        }
    }

    /** A robot comes by the cell before the corner, and wants to go into the corner, where an idle one is. */
    private static String cornered(int start, int before, int corner, int other, boolean isWalled) {
        ShelfSwarm x = new ShelfSwarm();
        x.addStation(corner);
        x.addTray(corner, 0, 9);
        x.addRobot(start, 0);
        Scene.ordered(x, 0, 0, 9);
        if (isWalled) {
            x.wall(other);
        }
        x.tick(1);
        Check.due("point 6: before the corner", x.cellOf(0), before);
        x.addRobot(corner, 9);
        x.tick(1);
        return Scene.cells(x, 2);
    }

    private static void asideInCorners() {
        Check.due("point 6: out of 0, below", cornered(2, 1, 0, 8, false), "0 8");
        Check.due("point 6: out of 0, right", cornered(16, 8, 0, 1, false), "0 1");
        Check.due("point 6: out of 7, below", cornered(5, 6, 7, 15, false), "7 15");
        Check.due("point 6: out of 7, left", cornered(23, 15, 7, 6, false), "7 6");
        Check.due("point 6: out of 56, above", cornered(58, 57, 56, 48, false), "56 48");
        Check.due("point 6: out of 56, right", cornered(40, 48, 56, 57, false), "56 57");
        Check.due("point 6: out of 63, above", cornered(61, 62, 63, 55, false), "63 55");
        Check.due("point 6: out of 63, left", cornered(47, 55, 63, 62, false), "63 62");
        Check.due("point 6: none in 0, it stays", cornered(2, 1, 0, 8, true), "1 0");
        Check.due("point 6: none in 7, it stays", cornered(5, 6, 7, 15, true), "6 7");
        Check.due("point 6: none in 56, it stays", cornered(58, 57, 56, 48, true), "57 56");
        Check.due("point 6: none in 63, it stays", cornered(61, 62, 63, 55, true), "62 63");
    }

    private static void nobodyIsAside() {
        ShelfSwarm x = Scene.coming();
        x.addRobot(27, 0);
        x.tick(1);
        Check.due("point 6: nobody asks for its cell yet", Scene.cells(x, 2), "26 27");
        x.tick(1);
        Check.due("point 6: now it is asked for", Scene.cells(x, 2), "27 19");
        ShelfSwarm y = Scene.coming();
        y.addRobot(26, 0);
        y.die(1);
        y.tick(1);
        Check.due("point 6: a DEAD one does not step aside", Scene.cells(y, 2), "17 26");
    }

    private static void oneStateATick() {
        Check.taken("point 8: FETCHING and BRINGING in one tick", () -> Scene.serving(9, 9), x -> x.time() * 10 + x.state(0),
                20 + ShelfSwarm.SERVING);
        Check.taken("point 8: home in the tick of the last pick, and fetched in the next one", () -> Scene.serving(9, 1),
                x -> x.tick(1) * 100 + x.state(0) * 10 + Scene.ordered(x, 0, 2, 1) + stateAfterTick(x),
                101 + ShelfSwarm.BRINGING);
        Check.taken("point 8: the tray is at home then", () -> Scene.serving(9, 1),
                x -> x.tick(1) * 100 + x.trayOf(0) * 10 + x.fill(0, 1), 99);
    }

    /** The way from 24 to 31 leads through trays at home and stations. */
    private static void nothingIsInTheWay() {
        ShelfSwarm x = Scene.coming();
        x.addStation(26);
        x.addTray(27, 1, 9);
        x.addTray(28, 2, 0);
        x.addStation(28);
        x.tick(6);
        Check.due("terms: trays at home and stations are in nobody's way", x.cellOf(0) * 100 + x.steps(), 3107);
    }
}
