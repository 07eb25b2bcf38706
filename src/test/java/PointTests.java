/** What happens in a tick: the points 2, 3, 4, 6 and 8; their boundary cases are in PointBounds. */
final class PointTests {
    private PointTests() {
    }

    static void run() {
        trayPickedEmpty();
        nearestTray();
        trayLeftOut();
        nearestRobot();
        noRobotForTheTray();
        stationsInTurn();
        oneRobotAStation();
        firstCell();
        noWay();
        inTheGoal();
        stepAside();
        stepAsideChoices();
        stepAsideInTurn();
        oneChangeATick();
    }

    private static void trayPickedEmpty() {
        ShelfSwarm x = Scene.serving(1, 2);
        x.addTray(1, 2, 5);
        x.addRobot(5, 0);
        Check.due("point 2: one piece", x.tick(1), 1);
        Check.due("point 2: the tray is empty", x.amount(0), 0);
        Check.due("point 2: of the line is left", x.left(0, 0), 1);
        Check.due("point 2: home at once, another one is sent", Scene.states(x, 2), "0 1");
        Check.due("point 2: for the other tray", x.trayOf(1), 1);
    }

    /** Which tray is fetched for a station in the cell 9, if trays are at these homes. */
    private static int fetchedOf(ShelfSwarm x, int... homes) {
        x.addStation(9);
        for (int home : homes) {
            x.addTray(home, 0, 5);
        }
        x.addRobot(63, 0);
        Scene.ordered(x, 0, 0, 5);
        x.tick(1);
        return x.trayOf(0);
    }

    private static void nearestTray() {
        Check.due("point 3: the nearest", fetchedOf(new ShelfSwarm(), 20, 10, 63), 1);
        Check.due("point 3: the lowest", fetchedOf(new ShelfSwarm(), 40, 17, 1, 8), 1);
        ShelfSwarm x = new ShelfSwarm();
        Scene.walls(x, 2, 18);
        x.wall(11);
        Check.due("point 3: by the way to it", fetchedOf(x, 12, 33), 1);
        ShelfSwarm y = new ShelfSwarm();
        y.setClosed(9, true);
        Check.due("point 3: from a closed station", fetchedOf(y, 33, 10), 1);
        ShelfSwarm z = new ShelfSwarm();
        z.setClosed(10, true);
        Check.due("point 3: to none in a closed cell", fetchedOf(z, 10, 33), 1);
    }

    private static void trayLeftOut() {
        ShelfSwarm x = new ShelfSwarm();
        x.addStation(0);
        x.addTray(1, 0, 0);
        x.addTray(2, 1, 5);
        x.addTray(5, 0, 5);
        x.addRobot(4, 0);
        x.addRobot(63, 0);
        int order = Scene.ordered(x, 0, 0, 5);
        x.tick(1);
        Check.due("point 3: neither empty nor of another good", x.trayOf(0), 2);
        x.fill(0, 1);
        x.die(0);
        x.tick(1);
        Check.due("point 3: a carried one is not at home", x.trayOf(1), 0);
        x.giveUp(order, 0);
        x.claim(0, order, 0);
        Check.due("point 3: idle till the next tick", x.state(1), ShelfSwarm.IDLE);
        x.repair(0);
        x.tick(1);
        Check.due("point 3: a returning one gets no work", Scene.states(x, 2), "0 1");
    }

    private static void nearestRobot() {
        ShelfSwarm x = new ShelfSwarm();
        x.addStation(0);
        x.addTray(27, 0, 9);
        int[] cells = {28, 30, 35, 26, 19};
        for (int cell : cells) {
            x.addRobot(cell, cell % 10);
        }
        x.die(0);
        Scene.ordered(x, 0, 0, 5);
        x.tick(1);
        Check.due("point 3: the lowest of the nearest idle ones", Scene.states(x, 5), "5 0 2 0 0");
        ShelfSwarm y = new ShelfSwarm();
        y.addStation(0);
        y.addTray(3, 0, 9);
        Scene.walls(y, 5, 13, 21);
        y.addRobot(6, 0);
        y.addRobot(32, 0);
        Scene.ordered(y, 0, 0, 5);
        y.tick(1);
        Check.due("point 3: by its way", Scene.states(y, 2), "0 1");
    }

    /** The nearest tray is behind the closed station, where no robot gets to; the next one is not asked about. */
    private static void noRobotForTheTray() {
        ShelfSwarm x = Scene.corridor();
        x.addStation(3);
        x.setClosed(3, true);
        x.addTray(2, 0, 5);
        x.addTray(6, 0, 5);
        x.addTray(4, 1, 5);
        x.addRobot(7, 0);
        int order = Scene.ordered(x, 0, 0, 5);
        x.tick(1);
        Check.due("point 3: no robot for the nearest tray", x.state(0), ShelfSwarm.IDLE);
        Scene.ordered(x, 0, 1, 5);
        x.tick(1);
        Check.due("point 3: the next line", x.state(0) * 10 + x.trayOf(0), 12);
        Check.due("point 3: the first one is not worked for", x.giveUp(order, 0) + x.state(0), 1);
    }

    private static void stationsInTurn() {
        ShelfSwarm x = new ShelfSwarm();
        x.addStation(0);
        x.addStation(7);
        x.addTray(8, 0, 5);
        x.addTray(15, 1, 5);
        x.addRobot(14, 0);
        Scene.ordered(x, 1, 1, 5);
        Scene.ordered(x, 0, 0, 5);
        x.tick(1);
        Check.due("point 3: the first station first", x.trayOf(0), 0);
        ShelfSwarm y = new ShelfSwarm();
        y.addStation(0);
        y.addStation(7);
        y.addTray(6, 0, 5);
        y.addTray(56, 0, 5);
        y.addRobot(63, 0);
        y.addRobot(62, 0);
        Scene.ordered(y, 0, 0, 5);
        Scene.ordered(y, 1, 0, 5);
        y.tick(1);
        Check.due("point 3: the second station takes the tray that is left", y.trayOf(0) * 10 + y.trayOf(1), 10);
    }

    /** The robot in the cell 62 works for a line, the one in 63 must wait till the station is free. */
    private static ShelfSwarm twoLines(int cell, int otherCell) {
        ShelfSwarm x = new ShelfSwarm();
        x.addStation(0);
        x.addTray(8, 0, 5);
        x.addTray(40, 1, 5);
        x.addRobot(cell, 0);
        x.addRobot(otherCell, 0);
        Scene.ordered(x, 0, 0, 5);
        Scene.ordered(x, 0, 1, 5);
        x.tick(17);
        return x;
    }

    private static void oneRobotAStation() {
        ShelfSwarm x = twoLines(63, 62);
        Check.due("point 3: one works for the station", Scene.states(x, 2), "0 3");
        x.tick(1);
        Check.due("point 3: it works no more, another one is sent", Scene.states(x, 2), "1 0");
        ShelfSwarm y = twoLines(62, 63);
        Check.due("point 3: the other one works for it", Scene.states(y, 2), "3 0");
    }

    /** Where a robot in the cell 27 moves first, if it fetches a tray at home in the cell. */
    private static int firstCellTo(int home, int... walls) {
        ShelfSwarm x = new ShelfSwarm();
        Scene.walls(x, walls);
        x.addStation(home);
        x.addTray(home, 0, 5);
        x.addRobot(27, 0);
        Scene.ordered(x, 0, 0, 5);
        x.tick(1);
        return x.cellOf(0);
    }

    private static void firstCell() {
        Check.due("point 4: above before left", firstCellTo(18), 19);
        Check.due("point 4: above before right", firstCellTo(20), 19);
        Check.due("point 4: left before below", firstCellTo(34), 26);
        Check.due("point 4: right before below", firstCellTo(36), 28);
        Check.due("point 4: below", firstCellTo(43), 35);
        Check.due("point 4: left, as a wall is above", firstCellTo(18, 19), 26);
        Check.due("point 4: left before right", firstCellTo(11, 19), 26);
        Check.due("point 4: the shortest way round walls", firstCellTo(24, 26, 18, 10), 35);
    }

    private static void noWay() {
        ShelfSwarm x = new ShelfSwarm();
        x.addStation(0);
        x.addTray(5, 0, 5);
        x.addRobot(0, 0);
        Scene.ordered(x, 0, 0, 5);
        x.tick(1);
        x.setClosed(5, true);
        x.tick(3);
        Check.due("point 4: no way, no ask", x.cellOf(0) * 10 + x.asked(0), 9);
        Check.due("point 4: it goes on fetching", x.state(0), ShelfSwarm.FETCHING);
        x.setClosed(5, false);
        x.tick(1);
        Check.due("point 4: a way again", x.cellOf(0), 2);
    }

    /** A robot whose goal is its own cell asks for nothing, and is not sent away from it. */
    private static void inTheGoal() {
        ShelfSwarm x = Scene.serving(9, 9);
        Check.due("point 4: in the cell of its goal", x.asked(0) + x.steps(), -1);
        x.giveUp(0, 0);
        x.tick(1);
        Check.due("point 8: the tray is home", x.state(0) * 10 + x.steps(), 0);
    }

    private static void stepAside() {
        ShelfSwarm x = Scene.coming();
        x.addRobot(26, 9);
        x.tick(1);
        Check.due("point 6: up", Scene.cells(x, 2), "26 18");
        Check.due("point 6: it is a step", x.steps(), 3);
        x.tick(1);
        Check.due("point 6: nobody asks for its cell", Scene.cells(x, 2), "27 18");
        ShelfSwarm y = Scene.coming();
        y.addRobot(26, 9);
        y.setClosed(18, true);
        y.tick(1);
        Check.due("point 6: into no closed cell, nor the other's", Scene.cells(y, 2), "26 27");
        ShelfSwarm z = Scene.coming();
        z.addRobot(26, 9);
        z.addRobot(18, 9);
        z.tick(1);
        Check.due("point 6: into no robot's cell", Scene.cells(z, 3), "26 27 18");
    }

    private static void stepAsideChoices() {
        ShelfSwarm x = new ShelfSwarm();
        x.addStation(63);
        x.addStation(56);
        x.addTray(31, 0, 5);
        x.addTray(58, 1, 5);
        x.addRobot(24, 0);
        x.addRobot(2, 0);
        Scene.ordered(x, 0, 0, 5);
        Scene.ordered(x, 1, 1, 5);
        x.tick(1);
        Check.due("point 6: two come", Scene.cells(x, 2), "25 10");
        x.addRobot(26, 0);
        x.tick(1);
        Check.due("point 6: into no cell for which somebody asks", Scene.cells(x, 3), "26 18 27");
    }

    /** Two come, to the cells 26 and 17; an idle robot is in each, and both would go into the cell 18. */
    private static ShelfSwarm bothAside(int firstIdle, int secondIdle) {
        ShelfSwarm x = new ShelfSwarm();
        x.setClosed(9, true);
        x.addStation(63);
        x.addStation(56);
        x.addTray(31, 0, 5);
        x.addTray(23, 1, 5);
        x.addRobot(24, 0);
        x.addRobot(8, 0);
        Scene.ordered(x, 0, 0, 5);
        Scene.ordered(x, 1, 1, 5);
        x.tick(1);
        Check.due("point 6: two come", Scene.cells(x, 2), "25 16");
        x.addRobot(firstIdle, 0);
        x.addRobot(secondIdle, 9);
        x.tick(1);
        return x;
    }

    private static void stepAsideInTurn() {
        ShelfSwarm x = bothAside(26, 17);
        Check.due("point 6: the lower one takes the only cell of the other", Scene.cells(x, 4), "26 16 18 17");
        Check.due("point 6: so one waits", Scene.asks(x, 4), "-1 17 -1 -1");
        ShelfSwarm y = bothAside(17, 26);
        Check.due("point 6: the lower one first", Scene.cells(y, 4), "26 17 18 27");
        Check.due("point 6: all have moved", y.steps(), 6);
    }

    private static void oneChangeATick() {
        ShelfSwarm x = new ShelfSwarm();
        x.addStation(0);
        x.addTray(0, 0, 5);
        x.addRobot(0, 0);
        Scene.ordered(x, 0, 0, 1);
        Check.due("point 8: it takes the tray", x.tick(1) * 10 + x.state(0), ShelfSwarm.BRINGING);
        Check.due("point 8: it serves", x.tick(1) * 10 + x.state(0), ShelfSwarm.SERVING);
        Check.due("point 8: it leaves the tray", x.tick(1) * 10 + x.state(0), 10 + ShelfSwarm.IDLE);
        Check.due("point 8: without a tray", x.trayOf(0), ShelfSwarm.NONE);
        Check.due("point 8: without a step", x.steps(), 0);
    }
}
