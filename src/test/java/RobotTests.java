/** Promises 16 to 23; their boundary cases are in RobotBounds. */
final class RobotTests {
    private RobotTests() {
    }

    static void run() {
        addRobot();
        die();
        dieAtWork();
        repair();
        robotInAndCellOf();
        stateAndTrayOf();
        asked();
    }

    private static void addRobot() {
        ShelfSwarm x = new ShelfSwarm();
        x.wall(5);
        x.addStation(1);
        x.addTray(2, 0, 1);
        x.setClosed(3, true);
        Check.due("promise 16: the first", x.addRobot(0, 9), 0);
        Check.due("promise 16: idle", x.state(0), ShelfSwarm.IDLE);
        x.die(0);
        Check.due("promise 16: at a station", x.addRobot(1, 0), 1);
        Check.due("promise 16: at home with a tray", x.addRobot(2, 0), 2);
        Check.due("promise 16: in a closed cell", x.addRobot(3, 0), 3);
        Check.due("promise 16: in the last cell", x.addRobot(63, 0), 4);
        Check.due("promise 16: the sixth", x.addRobot(62, 0), 5);
    }

    private static void die() {
        ShelfSwarm x = new ShelfSwarm();
        x.addRobot(0, 0);
        Check.due("promise 17: it carries none", x.die(0), ShelfSwarm.NONE);
        Check.due("promise 17: dead", x.state(0), ShelfSwarm.DEAD);
        Check.due("promise 17: it stays in its cell", x.robotIn(0), 0);
        Check.due("promise 17: nobody gets in", x.distance(1, 0), ShelfSwarm.NONE);
    }

    private static void dieAtWork() {
        ShelfSwarm x = new ShelfSwarm();
        x.addStation(4);
        x.addTray(2, 0, 9);
        x.addTray(58, 0, 9);
        x.addRobot(0, 0);
        x.addRobot(63, 0);
        Scene.ordered(x, 0, 0, 5);
        x.tick(1);
        Check.due("promise 17: a fetching one carries none", x.die(0), ShelfSwarm.NONE);
        Check.due("promise 17: it goes for none", x.trayOf(0), ShelfSwarm.NONE);
        x.tick(1);
        Check.due("promise 17: another one fetches the tray", x.state(1) * 10 + x.trayOf(1), 10);
        Check.due("promise 17: repaired without a tray", x.repair(0), ShelfSwarm.IDLE);
        x.tick(1);
        Check.due("promise 17: the first one works no more", x.state(0), ShelfSwarm.IDLE);
        x.tick(11);
        Check.due("promise 17: the other one brings", x.state(1), ShelfSwarm.BRINGING);
        Check.due("promise 17: with the tray", x.die(1), 0);
        Check.due("promise 17: it keeps the tray", x.trayOf(1), 0);
        Check.due("promise 17: in its cell", x.trayCell(0), x.cellOf(1));
        x.tick(1);
        Check.due("promise 17: the station gets another tray", x.state(0) * 10 + x.trayOf(0), 11);
        dieServing();
        dieReturning();
    }

    private static void dieServing() {
        ShelfSwarm x = Scene.serving(9, 5);
        x.tick(1);
        Check.due("promise 17: serving", x.die(0), 0);
        Check.due("promise 17: nothing is picked", x.tick(3), 0);
        Check.due("promise 17: what is left", x.left(0, 0), 4);
        Check.due("promise 17: the claim stands", x.claimant(0, 0), 0);
        Check.due("promise 17: repaired with a tray", x.repair(0), ShelfSwarm.RETURNING);
        Check.due("promise 17: it serves no more", x.tick(1), 0);
        Check.due("promise 17: the tray is home", x.state(0), ShelfSwarm.IDLE);
    }

    private static void dieReturning() {
        ShelfSwarm x = new ShelfSwarm();
        x.addStation(0);
        x.addTray(3, 0, 9);
        x.addRobot(3, 0);
        Scene.ordered(x, 0, 0, 1);
        x.tick(6);
        Check.due("promise 17: returning", x.state(0) * 10 + x.cellOf(0), ShelfSwarm.RETURNING * 10 + 2);
        Check.due("promise 17: returning with the tray", x.die(0), 0);
        x.tick(5);
        Check.due("promise 17: a dead one does not move", x.cellOf(0), 2);
        x.repair(0);
        x.tick(1);
        Check.due("promise 18: it brings the tray home", x.cellOf(0) * 10 + x.state(0), 30);
    }

    private static void repair() {
        ShelfSwarm x = new ShelfSwarm();
        x.addRobot(0, 0);
        x.die(0);
        Check.due("promise 18: idle", x.repair(0), ShelfSwarm.IDLE);
        Check.due("promise 18: its state", x.state(0), ShelfSwarm.IDLE);
        Check.due("promise 18: its cell is open", x.distance(1, 0), 1);
        x.setClosed(0, true);
        x.die(0);
        x.repair(0);
        Check.due("promise 18: a closed cell stays closed", x.distance(1, 0), ShelfSwarm.NONE);
    }

    private static void robotInAndCellOf() {
        ShelfSwarm x = new ShelfSwarm();
        x.addStation(63);
        x.addTray(63, 0, 1);
        x.addRobot(62, 0);
        x.addRobot(0, 0);
        Check.due("promise 19: the robots", x.robotIn(62) * 10 + x.robotIn(0), 1);
        Check.due("promise 19: none", x.robotIn(63), ShelfSwarm.NONE);
        Check.due("promise 20: the cells", Scene.cells(x, 2), "62 0");
        Scene.ordered(x, 0, 0, 1);
        x.tick(1);
        Check.due("promise 19: it has moved in", x.robotIn(63), 0);
        Check.due("promise 19: it has moved out", x.robotIn(62), ShelfSwarm.NONE);
        Check.due("promise 20: its new cell", x.cellOf(0), 63);
    }

    private static void stateAndTrayOf() {
        ShelfSwarm x = new ShelfSwarm();
        x.addStation(4);
        x.addTray(2, 0, 1);
        x.addRobot(0, 0);
        Scene.ordered(x, 0, 0, 1);
        int[] states = {0, 1, 2, 2, 3, 4, 0, 0};
        int[] trays = {-1, 0, 0, 0, 0, 0, -1, -1};
        for (int tick = 0; tick < states.length; tick++) {
            Check.due("promise 21: after the tick " + tick, x.state(0), states[tick]);
            Check.due("promise 22: after the tick " + tick, x.trayOf(0), trays[tick]);
            x.tick(1);
        }
        x.die(0);
        Check.due("promise 21: dead", x.state(0), 5);
        Check.due("promise 22: dead without a tray", x.trayOf(0), ShelfSwarm.NONE);
    }

    /** A robot that serves in the cell 4 of a corridor, and one that wants to pass it from the left. */
    private static ShelfSwarm blocked() {
        ShelfSwarm x = Scene.corridor();
        x.addStation(4);
        x.addStation(7);
        x.addTray(4, 0, 99);
        x.addTray(0, 1, 99);
        x.addRobot(4, 0);
        x.addRobot(0, 0);
        Scene.ordered(x, 0, 0, 50);
        Scene.ordered(x, 1, 1, 50);
        Check.due("promise 23: before any tick", x.asked(1), ShelfSwarm.NONE);
        x.tick(4);
        Check.due("promise 23: it moved into the cell", x.asked(1), ShelfSwarm.NONE);
        x.tick(1);
        Check.due("promise 23: it waits", x.asked(1) * 10 + x.cellOf(1), 43);
        Check.due("promise 23: a serving one asks for none", x.asked(0), ShelfSwarm.NONE);
        x.tick(2);
        Check.due("promise 23: it still waits", x.asked(1) * 10 + x.cellOf(1), 43);
        return x;
    }

    private static void asked() {
        ShelfSwarm x = blocked();
        x.giveUp(0, 0);
        Check.due("promise 23: another one's state has changed", x.asked(1), 4);
        x.tick(1);
        Check.due("promise 23: the other one became idle too late", x.asked(1) * 10 + x.cellOf(1), 43);
        x.tick(1);
        Check.due("promise 23: the other one stepped aside", x.asked(1) * 10 + x.cellOf(1), -6);
        x.tick(3);
        Check.due("promise 23: at the end of the corridor", x.asked(1) * 10 + x.cellOf(1), 76);
        x.die(1);
        Check.due("promise 23: dead", x.asked(1), ShelfSwarm.NONE);
        x.repair(1);
        Check.due("promise 23: repaired", x.asked(1), ShelfSwarm.NONE);
        x.tick(1);
        Check.due("promise 23: on its way home", x.asked(1) * 10 + x.cellOf(1), -5);
        ShelfSwarm y = blocked();
        y.giveUp(1, 0);
        Check.due("promise 23: its state has changed", y.asked(1), ShelfSwarm.NONE);
        ShelfSwarm z = blocked();
        z.setClosed(4, true);
        Check.due("promise 23: the cell was closed since", z.asked(1), 4);
        z.tick(1);
        Check.due("promise 23: there is no way", z.asked(1), ShelfSwarm.NONE);
    }
}
