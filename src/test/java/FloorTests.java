/** Promises 1 to 4; their boundary cases are in FloorBounds. */
final class FloorTests {
    private FloorTests() {
    }

    static void run() {
        newObject();
        wall();
        setClosed();
        distance();
        distanceAroundRobots();
    }

    private static void newObject() {
        ShelfSwarm x = new ShelfSwarm();
        Check.due("promise 1: time", x.time(), 0);
        Check.due("promise 1: counts", x.steps() + x.rings() + x.yields() + x.knots() + x.picks(), 0);
        for (int cell = 0; cell < 64; cell++) {
            Check.due("promise 1: distance to " + cell, x.distance(0, cell), cell / 8 + cell % 8);
            Check.due("promise 1: robotIn " + cell, x.robotIn(cell), ShelfSwarm.NONE);
            Check.due("promise 1: was closed " + cell, x.setClosed(cell, false), false);
        }
        Check.due("promise 1: no stock", x.stock(0) + x.stockByPicks(5), 0);
        Check.due("promise 1: ticks pass", x.tick(50), 0);
        ShelfSwarm other = new ShelfSwarm();
        other.wall(1);
        Check.due("promise 1: another one's wall", x.distance(0, 1), 1);
        Check.due("promise 1: another one's time", other.time(), 0);
    }

    private static void wall() {
        ShelfSwarm x = new ShelfSwarm();
        x.wall(0);
        x.wall(63);
        Check.due("promise 2: into a wall", x.distance(1, 0), ShelfSwarm.NONE);
        Check.due("promise 2: into the last cell", x.distance(62, 63), ShelfSwarm.NONE);
        x.setClosed(0, false);
        Check.due("promise 2: a wall is for good", x.distance(1, 0), ShelfSwarm.NONE);
        x.setClosed(20, true);
        x.wall(20);
        x.setClosed(20, false);
        Check.due("promise 2: a closed cell became a wall", x.distance(19, 20), ShelfSwarm.NONE);
        Check.due("promise 2: round the wall", x.distance(19, 21), 4);
    }

    private static void setClosed() {
        ShelfSwarm x = new ShelfSwarm();
        Check.due("promise 3: it was open", x.setClosed(0, true), false);
        Check.due("promise 3: it was closed", x.setClosed(0, true), true);
        Check.due("promise 3: no way in", x.distance(1, 0), ShelfSwarm.NONE);
        Check.due("promise 3: a way out", x.distance(0, 1), 1);
        Check.due("promise 3: it was closed till now", x.setClosed(0, false), true);
        Check.due("promise 3: it is open", x.setClosed(0, false), false);
        Check.due("promise 3: a way in", x.distance(1, 0), 1);
        Check.due("promise 3: the last cell", x.setClosed(63, true), false);
        x.wall(9);
        Check.due("promise 3: a wall is not closed", x.setClosed(9, true), false);
        Check.due("promise 3: a wall was closed", x.setClosed(9, false), true);
        leaveClosedCell();
    }

    private static void leaveClosedCell() {
        ShelfSwarm x = new ShelfSwarm();
        x.addStation(2);
        x.addTray(2, 0, 9);
        x.addRobot(0, 0);
        Scene.ordered(x, 0, 0, 1);
        x.setClosed(0, true);
        x.tick(1);
        Check.due("promise 3: a robot leaves a closed cell", x.cellOf(0), 1);
        x.setClosed(2, true);
        x.tick(1);
        Check.due("promise 3: a robot goes into no closed cell", x.cellOf(0), 1);
        Check.due("promise 3: it asks for none", x.asked(0), ShelfSwarm.NONE);
    }

    private static void distance() {
        ShelfSwarm x = new ShelfSwarm();
        Check.due("promise 4: corner to corner", x.distance(7, 56), 14);
        Check.due("promise 4: rows do not join", x.distance(7, 8), 8);
        Check.due("promise 4: rows do not join back", x.distance(8, 7), 8);
        Scene.walls(x, 1, 8);
        Check.due("promise 4: shut in", x.distance(0, 63), ShelfSwarm.NONE);
        Check.due("promise 4: shut out", x.distance(63, 0), ShelfSwarm.NONE);
        Check.due("promise 4: a cell to itself", x.distance(0, 0), 0);
        Check.due("promise 4: a wall to itself", x.distance(1, 1), 0);
        Check.due("promise 4: out of a wall", x.distance(1, 2), 1);
        Check.due("promise 4: into a wall", x.distance(2, 1), ShelfSwarm.NONE);
        Check.due("promise 4: out of a wall into the corner", x.distance(1, 0), 1);
        longestWay();
    }

    /** Walls that leave a way like a snake through all rows. */
    private static void longestWay() {
        ShelfSwarm x = new ShelfSwarm();
        for (int row = 1; row < 8; row += 2) {
            for (int column = 0; column < 8; column++) {
                int gap = row % 4 == 1 ? 7 : 0;
                if (column != gap) {
                    x.wall(8 * row + column);
                }
            }
        }
        Check.due("promise 4: a way like a snake", x.distance(0, 56), 35);
        Check.due("promise 4: and back", x.distance(56, 0), 35);
    }

    private static void distanceAroundRobots() {
        ShelfSwarm x = new ShelfSwarm();
        x.addRobot(1, 0);
        Check.due("promise 4: through a robot", x.distance(0, 2), 2);
        x.die(0);
        Check.due("promise 4: round a dead robot", x.distance(0, 2), 4);
        Check.due("promise 4: to a dead robot", x.distance(0, 1), ShelfSwarm.NONE);
        Check.due("promise 4: from a dead robot", x.distance(1, 0), 1);
        x.repair(0);
        Check.due("promise 4: to a repaired robot", x.distance(0, 1), 1);
        x.addStation(8);
        x.addTray(9, 0, 1);
        Check.due("promise 4: stations and trays are in nobody's way", x.distance(0, 10), 3);
        x.setClosed(1, true);
        Check.due("promise 4: through the station and the tray", x.distance(0, 10), 3);
    }
}
