/** Points 5 and 7 of a tick: rings, yielding, knots and the order of moves; promises 27 to 29. */
final class TrafficTests {
    private TrafficTests() {
    }

    static void run() {
        turnOfFour();
        turnOfSix();
        ringAndFollower();
        twoKnots();
        behindAKnot();
        yieldByNumber();
        yieldByRank();
        theOtherYields();
        avoidsNoMore();
        avoidsTillItsStateChanges();
        knots();
        knotAtTheGoal();
        moveByRank();
        moveByWaiting();
        moveBehindOneAnother();
    }

    /**
     * A new robot takes a new tray of the good at its home and walks on towards the station, till it
     * is in the cell and dies there; closed cells show it the way.
     */
    private static void park(ShelfSwarm x, int station, int good, int home, int cell, int... closed) {
        int tray = x.addTray(home, good, 9);
        int robot = x.addRobot(home, 5 - good);
        int order = Scene.ordered(x, station, good, 9);
        Scene.close(x, true, closed);
        for (int i = 0; i < 9 && x.cellOf(robot) != cell; i++) {
            x.tick(1);
        }
        Check.due("parked in its cell with its tray", x.cellOf(robot) * 100 + x.die(robot), cell * 100 + tray);
        x.giveUp(order, 0);
        Scene.close(x, false, closed);
    }

    /** Repairs all robots; the robot 0 comes from the cell 25 into 17 then, and closes the ring. */
    private static void closeRing(ShelfSwarm x, int robots) {
        for (int robot = 0; robot < robots; robot++) {
            x.repair(robot);
        }
        int steps = x.steps();
        x.tick(1);
        Check.due("ring: the robot 0 has come alone", x.cellOf(0) * 100 + x.steps() - steps, 1701);
        Check.due("promise 27: none yet", x.rings(), 0);
    }

    /** Robots in 17, 9, 10 and 18, each of which brings its tray home into the cell of the next one. */
    static ShelfSwarm ringOfFour() {
        ShelfSwarm x = new ShelfSwarm();
        x.addStation(57);
        park(x, 0, 0, 9, 25);
        park(x, 0, 1, 10, 9, 2, 11, 18);
        park(x, 0, 2, 18, 10, 17, 19, 26);
        park(x, 0, 3, 17, 18, 16);
        closeRing(x, 4);
        return x;
    }

    private static void turnOfFour() {
        ShelfSwarm x = ringOfFour();
        int steps = x.steps();
        x.tick(1);
        Check.due("promise 27: the ring has moved", x.rings(), 1);
        Check.due("point 5: all at once", Scene.cells(x, 4), "9 10 18 17");
        Check.due("promise 26: each one a step", x.steps() - steps, 4);
        Check.due("promise 23: all have moved", Scene.asks(x, 4), "-1 -1 -1 -1");
        Check.due("point 8: all are home", Scene.states(x, 4), "0 0 0 0");
        Check.due("promises 28, 29: nobody yielded, no knot", x.yields() + x.knots(), 0);
        x.tick(5);
        Check.due("promise 27: once", x.rings(), 1);
    }

    private static void turnOfSix() {
        ShelfSwarm x = new ShelfSwarm();
        x.addStation(57);
        park(x, 0, 0, 9, 25);
        park(x, 0, 1, 10, 9, 2, 11, 18);
        park(x, 0, 2, 11, 10, 3, 12, 19);
        park(x, 0, 3, 19, 11, 18, 20, 27);
        park(x, 0, 4, 18, 19, 17, 26);
        park(x, 0, 5, 17, 18, 16);
        closeRing(x, 6);
        int steps = x.steps();
        x.tick(1);
        Check.due("promise 27: one of six", x.rings() * 100 + x.steps() - steps, 106);
        Check.due("point 5: all six at once", Scene.cells(x, 6), "9 10 11 19 18 17");
    }

    /** A robot that asks for a cell of the ring, and is above all in it, finds the next one in that cell. */
    private static void ringAndFollower() {
        ShelfSwarm x = ringOfFour();
        x.addTray(11, 4, 9);
        x.addRobot(8, 9);
        Scene.ordered(x, 0, 4, 9);
        x.tick(1);
        Check.due("point 5: the ring first", Scene.cells(x, 5) + ", " + Scene.asks(x, 5),
                "9 10 18 17 8, -1 -1 -1 -1 9");
        x.tick(1);
        Check.due("point 6: then the fifth one", Scene.cells(x, 5), "1 10 18 17 9");
    }

    /** Two pairs of robots, 0 and 2, and 1 and 3, that cannot pass one another in two corridors. */
    private static void twoKnots() {
        ShelfSwarm x = Scene.corridor();
        Scene.walls(x, 24, 25, 26, 27, 28, 29, 30, 31);
        x.addStation(7);
        x.addStation(23);
        park(x, 0, 0, 1, 4);
        park(x, 1, 1, 17, 20);
        x.addTray(6, 2, 9);
        x.addTray(22, 3, 9);
        x.addRobot(3, 0);
        x.addRobot(19, 0);
        x.repair(0);
        x.repair(1);
        Scene.ordered(x, 0, 2, 9);
        Scene.ordered(x, 1, 3, 9);
        x.tick(1);
        Check.due("promise 29: two knots", Scene.asks(x, 4) + ", " + x.knots() + x.rings(), "3 19 4 20, 20");
        x.tick(2);
        Check.due("promise 29: two in each tick", Scene.cells(x, 4) + ", " + x.knots() + x.rings(), "4 20 3 19, 60");
    }

    /** The robot 0 asks for a cell of a knot, but is not in it. */
    private static void behindAKnot() {
        ShelfSwarm x = Scene.corridor();
        int[] homes = {6, 7, 0};
        int[] cells = {1, 4, 6};
        for (int i = 0; i < 3; i++) {
            x.addStation(i);
            x.addTray(homes[i], i, 9);
            x.addRobot(cells[i], i);
            Scene.ordered(x, i, i, 5);
            x.tick(1);
        }
        Check.due("promise 29: a knot ahead", Scene.cells(x, 3) + ", " + x.knots(), "4 5 6, 1");
        x.tick(1);
        Check.due("promise 29: a robot behind the knot", Scene.asks(x, 3) + ", " + x.knots() + x.rings() + x.yields(),
                "5 6 5, 200");
    }

    /** Two robots that meet in the first row, in the cells 3 and 4; the row below it is free. */
    static ShelfSwarm meeting(int rank, int otherRank) {
        ShelfSwarm x = new ShelfSwarm();
        x.addStation(56);
        x.addStation(63);
        x.addTray(7, 0, 9);
        x.addTray(0, 1, 9);
        x.addRobot(2, rank);
        Scene.ordered(x, 0, 0, 5);
        x.tick(1);
        x.addRobot(4, otherRank);
        Scene.ordered(x, 1, 1, 5);
        Check.due("meeting", Scene.cells(x, 2), "3 4");
        return x;
    }

    private static void yieldByNumber() {
        ShelfSwarm x = meeting(5, 5);
        x.tick(1);
        Check.due("promise 28: one", x.yields(), 1);
        Check.due("promise 29: no knot", x.knots(), 0);
        Check.due("promise 27: no ring of three", x.rings(), 0);
        Check.due("point 5: nobody moves", Scene.cells(x, 2), "3 4");
        Check.due("promise 23: one asks for none any more", Scene.asks(x, 2), "4 -1");
        String[] cells = {"3 12", "4 12", "5 12", "6 4", "7 3"};
        String[] asks = {"4 -1", "-1 4", "-1 4", "-1 -1", "-1 -1"};
        for (int i = 0; i < cells.length; i++) {
            x.tick(1);
            Check.due("point 5: after " + (i + 1) + " more, cells", Scene.cells(x, 2), cells[i]);
            Check.due("point 5: after " + (i + 1) + " more, asks", Scene.asks(x, 2), asks[i]);
        }
        Check.due("promise 28: once", x.yields(), 1);
    }

    private static void yieldByRank() {
        ShelfSwarm x = meeting(4, 5);
        x.tick(1);
        Check.due("promise 28: the lower rank", Scene.asks(x, 2) + ", " + x.yields(), "-1 3, 1");
        x.tick(1);
        Check.due("point 5: it goes round", Scene.cells(x, 2), "11 4");
        ShelfSwarm y = meeting(5, 4);
        y.tick(1);
        Check.due("promise 28: the lower rank of the other one", Scene.asks(y, 2) + ", " + y.yields(), "4 -1, 1");
    }

    /** The robot 1 must go by the cell 10 into its goal; so the robot 0 yields, though it is above. */
    private static void theOtherYields() {
        ShelfSwarm x = new ShelfSwarm();
        Scene.walls(x, 1, 3);
        x.addStation(56);
        x.addStation(63);
        x.addTray(34, 0, 9);
        x.addTray(2, 1, 9);
        x.addRobot(2, 5);
        Scene.ordered(x, 0, 0, 5);
        x.tick(1);
        x.addRobot(18, 0);
        Scene.ordered(x, 1, 1, 5);
        x.tick(1);
        Check.due("promise 28: the one above", Scene.asks(x, 2) + ", " + x.yields() + x.knots(), "-1 10, 10");
        x.tick(1);
        Check.due("point 5: it goes round the other one", Scene.cells(x, 2), "9 18");
        x.tick(2);
        Check.due("point 5: the other one is there", Scene.cells(x, 2), "9 2");
    }

    private static void avoidsNoMore() {
        ShelfSwarm x = meeting(5, 5);
        x.tick(1);
        int[] columnBelow = {12, 20, 28, 36, 44, 52, 60};
        Scene.close(x, true, columnBelow);
        x.tick(1);
        Check.due("point 4: it avoids the cell no more", Scene.asks(x, 2) + ", " + x.yields() + x.knots(),
                "4 3, 11");
        Scene.close(x, false, columnBelow);
        x.tick(1);
        Check.due("point 5: it yields once more", Scene.asks(x, 2) + ", " + x.yields() + x.knots(), "4 -1, 21");
        ShelfSwarm y = meeting(5, 5);
        y.tick(1);
        y.setClosed(12, true);
        y.tick(1);
        Check.due("point 4: it avoids the cell still", Scene.cells(y, 2), "3 5");
    }

    private static void avoidsTillItsStateChanges() {
        ShelfSwarm x = meeting(5, 5);
        x.tick(1);
        x.giveUp(1, 0);
        x.claim(1, 1, 0);
        x.tick(1);
        Check.due("point 5: it avoids nothing any more, and yields again", Scene.asks(x, 2) + ", " + x.yields(),
                "4 -1, 2");
        x.tick(1);
        Check.due("point 5: it goes round", Scene.cells(x, 2), "3 12");
    }

    /** Two robots that have come into the cells 3 and 4 of a corridor, and are a knot from the next tick on. */
    static ShelfSwarm knotted() {
        ShelfSwarm x = Scene.corridor();
        x.addStation(3);
        x.addStation(4);
        x.addTray(7, 0, 9);
        x.addTray(0, 1, 9);
        x.addRobot(2, 3);
        Scene.ordered(x, 0, 0, 5);
        x.tick(1);
        x.addRobot(4, 5);
        Scene.ordered(x, 1, 1, 5);
        return x;
    }

    private static void knots() {
        ShelfSwarm x = knotted();
        x.tick(1);
        Check.due("promise 29: one", x.knots() * 10 + x.yields(), 10);
        Check.due("point 5: both go on asking", Scene.asks(x, 2) + " in " + Scene.cells(x, 2), "4 3 in 3 4");
        x.tick(9);
        Check.due("promise 29: one in each tick", x.knots() * 10 + x.yields(), 100);
        x.giveUp(0, 0);
        x.tick(3);
        Check.due("promise 29: an idle one makes none", x.knots(), 10);
        Check.due("point 6: it is sent along", Scene.cells(x, 2), "0 1");
    }

    /** Each one's goal is the other one's cell: no way that avoids a cell ends in it, so nobody yields. */
    private static void knotAtTheGoal() {
        ShelfSwarm x = new ShelfSwarm();
        x.addStation(27);
        x.addStation(28);
        x.addTray(28, 0, 9);
        x.addTray(27, 1, 9);
        x.addRobot(28, 0);
        Scene.ordered(x, 0, 0, 9);
        x.tick(2);
        x.addRobot(28, 0);
        x.giveUp(0, 0);
        Scene.ordered(x, 1, 1, 9);
        x.tick(1);
        Check.due("promise 29: a knot", x.knots() * 10 + x.yields(), 10);
        Check.due("point 5: both ask", Scene.asks(x, 2) + " in " + Scene.cells(x, 2), "28 27 in 27 28");
    }

    /** Two robots that come from the left and from above and both ask for the cell 26. */
    private static ShelfSwarm crossing(int rank, int otherRank) {
        ShelfSwarm x = new ShelfSwarm();
        x.addStation(63);
        x.addStation(56);
        x.addTray(31, 0, 5);
        x.addTray(58, 1, 5);
        x.addRobot(24, rank);
        x.addRobot(10, otherRank);
        Scene.ordered(x, 0, 0, 5);
        Scene.ordered(x, 1, 1, 5);
        x.tick(1);
        Check.due("crossing", Scene.cells(x, 2), "25 18");
        x.tick(1);
        return x;
    }

    private static void moveByRank() {
        ShelfSwarm x = crossing(5, 6);
        Check.due("point 7: the greater rank", Scene.cells(x, 2) + ", " + Scene.asks(x, 2), "25 26, 26 -1");
        x.tick(1);
        Check.due("point 7: it is free again, but too late", Scene.cells(x, 2) + ", " + Scene.asks(x, 2), "25 34, 26 -1");
        x.tick(1);
        Check.due("point 7: then the other one", Scene.cells(x, 2), "26 42");
        ShelfSwarm y = crossing(6, 5);
        Check.due("point 7: the greater rank of the first", Scene.cells(y, 2), "26 18");
        ShelfSwarm z = crossing(5, 5);
        Check.due("point 7: the lower number", Scene.cells(z, 2), "26 18");
    }

    /** The cell 26 is served in, while the robot 1 waits for it first and then the robot 2, that is above it. */
    private static void moveByWaiting() {
        ShelfSwarm x = new ShelfSwarm();
        x.addStation(26);
        x.addStation(63);
        x.addStation(56);
        x.addTray(26, 2, 99);
        x.addTray(31, 0, 5);
        x.addTray(58, 1, 5);
        x.addRobot(26, 0);
        x.addRobot(24, 0);
        x.addRobot(2, 9);
        Scene.ordered(x, 0, 2, 50);
        Scene.ordered(x, 1, 0, 5);
        Scene.ordered(x, 2, 1, 5);
        x.tick(3);
        Check.due("point 7: both wait", Scene.cells(x, 3) + ", " + Scene.asks(x, 3), "26 25 18, -1 26 26");
        x.giveUp(0, 0);
        x.tick(2);
        Check.due("point 7: who has waited longer", Scene.cells(x, 3) + ", " + Scene.asks(x, 3), "27 26 18, -1 -1 26");
    }

    private static ShelfSwarm behind(int rank, int rankBehind) {
        ShelfSwarm x = Scene.corridor();
        x.addStation(0);
        x.addStation(1);
        x.addTray(7, 0, 5);
        x.addTray(6, 1, 5);
        x.addRobot(3, rank);
        x.addRobot(2, rankBehind);
        Scene.ordered(x, 0, 0, 5);
        Scene.ordered(x, 1, 1, 5);
        x.tick(1);
        return x;
    }

    private static void moveBehindOneAnother() {
        ShelfSwarm x = behind(5, 5);
        Check.due("point 7: one behind the other", Scene.cells(x, 2), "4 3");
        ShelfSwarm y = behind(0, 5);
        Check.due("point 7: the one behind came first, too early", Scene.cells(y, 2) + ", " + Scene.asks(y, 2),
                "4 2, -1 3");
        y.tick(1);
        Check.due("point 7: both", Scene.cells(y, 2) + ", " + Scene.asks(y, 2), "5 3, -1 -1");
    }
}
