/** The boundary cases of the promises 16 to 23. */
final class RobotBounds {
    private static final int[] OFF_THE_FLOOR = {-1, 64, Integer.MIN_VALUE, Integer.MAX_VALUE};
    /** The states of the robots of Scene.busy. */
    private static final String[] BUSY = {"DEAD", "SERVING", "BRINGING", "RETURNING", "FETCHING", "IDLE"};
    private static final int[] NO_ROBOT = {-1, 6, Integer.MIN_VALUE, Integer.MAX_VALUE};

    private RobotBounds() {
    }

    static void run() {
        robotArguments();
        robotPlaces();
        robotLimit();
        numbersOfRobots();
        numbersWithoutRobots();
        dieOfEachState();
        dieRefused();
        repairOfEachKind();
        repairRefused();
        robotInArguments();
        robotInCells();
        cellsStatesAndTrays();
        askedCells();
        askedAndStates();
    }

    private static void robotArguments() {
        for (int cell : OFF_THE_FLOOR) {
            Check.refused("promise 16: the cell " + cell, ShelfSwarm::new, Check.ARGUMENT, x -> x.addRobot(cell, 0));
            Check.refused("promise 16: a seventh in the cell " + cell + ", the argument first", Scene::full,
                    Check.ARGUMENT, x -> x.addRobot(cell, 0));
        }
        int[] noRank = {-1, 10, Integer.MIN_VALUE, Integer.MAX_VALUE};
        for (int rank : noRank) {
            Check.refused("promise 16: the rank " + rank, ShelfSwarm::new, Check.ARGUMENT, x -> x.addRobot(0, rank));
            Check.refused("promise 16: a seventh of the rank " + rank + ", the argument first", Scene::full,
                    Check.ARGUMENT, x -> x.addRobot(30, rank));
            Check.refused("promise 16: another robot's cell and the rank " + rank + ", the argument first", Scene::busy,
                    Check.ARGUMENT, x -> x.addRobot(0, rank));
        }
        Check.taken("promise 16: the cell 0", ShelfSwarm::new, x -> x.addRobot(0, 5) * 100 + x.cellOf(0), 0);
        Check.taken("promise 16: the cell 63", ShelfSwarm::new, x -> x.addRobot(63, 5) * 100 + x.cellOf(0), 63);
        Check.taken("promise 16: the rank 0", ShelfSwarm::new, x -> x.addRobot(5, 0), 0);
        Check.taken("promise 16: the rank 9", ShelfSwarm::new, x -> x.addRobot(5, 9), 0);
    }

    private static void robotPlaces() {
        Check.Scenery one = () -> {
            ShelfSwarm x = new ShelfSwarm();
            x.wall(8);
            x.addRobot(9, 0);
            return x;
        };
        Check.refused("promise 16: in a wall", one, Check.STATE, x -> x.addRobot(8, 0));
        Check.refused("promise 16: in a wall, of the rank 10, the argument first", one, Check.ARGUMENT,
                x -> x.addRobot(8, 10));
        Check.refused("promise 16: in a robot's cell", one, Check.STATE, x -> x.addRobot(9, 0));
        Check.refused("promise 16: in a DEAD robot's cell", () -> {
            ShelfSwarm x = one.made();
            x.die(0);
            return x;
        }, Check.STATE, x -> x.addRobot(9, 0));
        Check.taken("promise 16: beside a robot", one, x -> x.addRobot(10, 0), 1);
        Check.taken("promise 16: in a closed cell", one, x -> (x.setClosed(10, true) ? 10 : 0) + x.addRobot(10, 0), 1);
        Check.taken("promise 16: in the cell of a station", one, x -> x.addStation(10) * 10 + x.addRobot(10, 0), 1);
        Check.taken("promise 16: in the home of a tray", one, x -> x.addTray(10, 0, 1) * 10 + x.addRobot(10, 0), 1);
        Check.taken("promise 16: in a cell that a robot has left", Scene::coming, x -> x.addRobot(24, 0), 1);
    }

    private static void robotLimit() {
        Check.taken("promise 16: the sixth", ShelfSwarm::new, x -> {
            int number = ShelfSwarm.NONE;
            for (int robot = 0; robot < 6; robot++) {
                number = x.addRobot(63 - robot, robot);
                Check.due("promise 16: the numbers of robots", number, robot);
                Check.due("promise 16: a new robot is IDLE", x.state(robot), ShelfSwarm.IDLE);
            }
            return number;
        }, 5);
        Check.refused("promise 16: a seventh", Scene::full, Check.STATE, x -> x.addRobot(30, 0));
        Check.refused("promise 16: a seventh, though one is DEAD", Scene::busy, Check.STATE, x -> x.addRobot(30, 0));
        Check.refused("promise 16: a seventh in a robot's cell", Scene::full, Check.STATE, x -> x.addRobot(21, 0));
    }

    private static void numbersOfRobots() {
        Check.taken("promise 17: the first robot", Scene::full, x -> x.die(0) * 10 + x.state(0), -5);
        Check.taken("promise 17: the sixth robot", Scene::full, x -> x.die(5) * 10 + x.state(5), -5);
        Check.taken("promise 18: the first robot", Scene::full, x -> x.die(0) * 10 + x.repair(0), -10);
        Check.taken("promise 18: the sixth robot", Scene::full, x -> x.die(5) * 10 + x.repair(5), -10);
        Check.taken("promise 20: the first robot", Scene::full, x -> x.cellOf(0), 16);
        Check.taken("promise 20: the sixth robot", Scene::full, x -> x.cellOf(5), 21);
        Check.taken("promise 21: the first robot", Scene::busy, x -> x.state(0), ShelfSwarm.DEAD);
        Check.taken("promise 21: the sixth robot", Scene::busy, x -> x.state(5), ShelfSwarm.IDLE);
        Check.taken("promise 22: the first robot", Scene::busy, x -> x.trayOf(0), 0);
        Check.taken("promise 22: the sixth robot", Scene::busy, x -> x.trayOf(5), ShelfSwarm.NONE);
        Check.taken("promise 23: the first robot", Scene::busy, x -> x.asked(0), ShelfSwarm.NONE);
        Check.taken("promise 23: the sixth robot", Scene::busy, x -> x.asked(5), ShelfSwarm.NONE);
    }

    private static void numbersWithoutRobots() {
        for (int robot : NO_ROBOT) {
            refusedRobot("the robot " + robot + " of six", Scene::busy, robot);
        }
        refusedRobot("the robot 1 of one", Scene::coming, 1);
        refusedRobot("no robot at all", ShelfSwarm::new, 0);
    }

    private static void refusedRobot(String what, Check.Scenery scenery, int robot) {
        Check.refused("promise 17: " + what, scenery, Check.INDEX, x -> x.die(robot));
        Check.refused("promise 18: " + what, scenery, Check.INDEX, x -> x.repair(robot));
        Check.refused("promise 20: " + what, scenery, Check.INDEX, x -> x.cellOf(robot));
        Check.refused("promise 21: " + what, scenery, Check.INDEX, x -> x.state(robot));
        Check.refused("promise 22: " + what, scenery, Check.INDEX, x -> x.trayOf(robot));
        Check.refused("promise 23: " + what, scenery, Check.INDEX, x -> x.asked(robot));
    }

    private static void dieOfEachState() {
        int[] carried = {ShelfSwarm.NONE, 1, 2, 3, ShelfSwarm.NONE, ShelfSwarm.NONE};
        for (int i = 1; i < 6; i++) {
            int robot = i;
            Check.taken("promise 17: a " + BUSY[i] + " robot", Scene::busy, x -> x.die(robot), carried[i]);
            Check.taken("promise 17: the tray of a " + BUSY[i] + " robot", Scene::busy,
                    x -> x.die(robot) * 0 + x.trayOf(robot), carried[i]);
            Check.taken("promise 17: a " + BUSY[i] + " robot is DEAD and stays where it is", Scene::busy,
                    x -> x.cellOf(robot) * 10 - x.die(robot) * 0 - x.tick(9) * 0 - x.cellOf(robot) * 10 + x.state(robot),
                    ShelfSwarm.DEAD);
        }
        Check.taken("promise 17: nothing is picked from it", Scene::busy, x -> x.die(1) * 0 + x.tick(1), 0);
        Check.taken("promise 17: it works no more, so another one is sent", Scene::busy,
                x -> x.die(4) * 0 + x.tick(1) * 0 + x.state(5) * 10 + x.trayOf(5), 14);
    }

    private static void dieRefused() {
        Check.refused("promise 17: a DEAD one with a tray", Scene::busy, Check.STATE, x -> x.die(0));
        Check.refused("promise 17: a DEAD one without a tray", () -> {
            ShelfSwarm x = Scene.busy();
            x.die(5);
            return x;
        }, Check.STATE, x -> x.die(5));
        Check.taken("promise 17: again, after it was repaired", Scene::busy, x -> x.repair(0) * 10 + x.die(0), 40);
    }

    private static void repairOfEachKind() {
        int[] repaired = {0, 4, 4, 4, 0, 0};
        for (int i = 1; i < 6; i++) {
            int robot = i;
            Check.taken("promise 18: one that was " + BUSY[i] + " till it died", Scene::busy,
                    x -> x.die(robot) * 0 + x.repair(robot), repaired[i]);
            Check.taken("promise 18: the state of one that was " + BUSY[i] + " till it died", Scene::busy,
                    x -> x.die(robot) * 0 + x.repair(robot) * 0 + x.state(robot), repaired[i]);
        }
        Check.taken("promise 18: it keeps its tray", Scene::busy, x -> x.repair(0) * 10 + x.trayOf(0), 40);
        Check.taken("promise 18: it goes home", Scene::busy, x -> x.repair(0) * 0 + x.tick(1) * 0 + x.cellOf(0), 57);
        Check.taken("promise 18: in the home of its tray", () -> Scene.serving(9, 9),
                x -> x.die(0) * 1000 + x.repair(0) * 100 + x.tick(1) * 10 + x.state(0), 400);
    }

    private static void repairRefused() {
        for (int i = 1; i < 6; i++) {
            int robot = i;
            Check.refused("promise 18: a " + BUSY[i] + " one", Scene::busy, Check.STATE, x -> x.repair(robot));
        }
        Check.refused("promise 18: a repaired one", () -> {
            ShelfSwarm x = Scene.busy();
            x.repair(0);
            return x;
        }, Check.STATE, x -> x.repair(0));
    }

    private static void robotInArguments() {
        for (int cell : OFF_THE_FLOOR) {
            Check.refused("promise 19: robotIn(" + cell + ")", Scene::full, Check.ARGUMENT, x -> x.robotIn(cell));
            Check.refused("promise 19: robotIn(" + cell + "), no robot at all", ShelfSwarm::new, Check.ARGUMENT,
                    x -> x.robotIn(cell));
        }
        Check.taken("promise 19: robotIn(0)", Scene::busy, x -> x.robotIn(0), 5);
        Check.taken("promise 19: robotIn(63)", ShelfSwarm::new, x -> x.addRobot(63, 0) * 10 + x.robotIn(63), 0);
    }

    private static void robotInCells() {
        Check.taken("promise 19: no robot in 0", ShelfSwarm::new, x -> x.robotIn(0), ShelfSwarm.NONE);
        Check.taken("promise 19: no robot in 63", Scene::full, x -> x.robotIn(63), ShelfSwarm.NONE);
        Check.taken("promise 19: the first robot", Scene::full, x -> x.robotIn(16), 0);
        Check.taken("promise 19: the last robot", Scene::full, x -> x.robotIn(21), 5);
        Check.taken("promise 19: a DEAD robot", Scene::busy, x -> x.robotIn(58), 0);
        Check.taken("promise 19: in a closed cell", Scene::busy, x -> (x.setClosed(20, true) ? 10 : 0) + x.robotIn(20), 2);
        Check.taken("promise 19: a robot has left it", Scene::coming, x -> x.robotIn(24), ShelfSwarm.NONE);
        Check.taken("promise 19: a robot has come", Scene::coming, x -> x.robotIn(25), 0);
        Check.taken("promise 19: a wall", ShelfSwarm::new, x -> {
            x.wall(5);
            return x.robotIn(5);
        }, ShelfSwarm.NONE);
    }

    private static void cellsStatesAndTrays() {
        int[] cells = {58, 7, 20, 41, 38, 0};
        int[] states = {5, 3, 2, 4, 1, 0};
        int[] trays = {0, 1, 2, 3, 4, ShelfSwarm.NONE};
        for (int i = 0; i < 6; i++) {
            int robot = i;
            Check.taken("promise 20: a " + BUSY[i] + " robot", Scene::busy, x -> x.cellOf(robot), cells[i]);
            Check.taken("promise 21: a " + BUSY[i] + " robot", Scene::busy, x -> x.state(robot), states[i]);
            Check.taken("promise 22: a " + BUSY[i] + " robot", Scene::busy, x -> x.trayOf(robot), trays[i]);
        }
    }

    /** The robot 1 in the cell 25 wants to go on into 26, where the robot 0 is SERVING. */
    private static ShelfSwarm waiting() {
        ShelfSwarm x = new ShelfSwarm();
        x.addStation(26);
        x.addStation(63);
        x.addTray(26, 0, 9);
        x.addTray(31, 1, 9);
        x.addRobot(26, 0);
        Scene.ordered(x, 0, 0, 9);
        x.tick(2);
        x.addRobot(25, 0);
        Scene.ordered(x, 1, 1, 9);
        x.tick(1);
        return x;
    }

    private static void askedCells() {
        Check.taken("promise 23: before the first tick", Scene::full, x -> x.asked(0), ShelfSwarm.NONE);
        Check.taken("promise 23: it did not move into it", RobotBounds::waiting, x -> x.asked(1), 26);
        Check.taken("promise 23: it moved into it", Scene::coming, x -> x.asked(0), ShelfSwarm.NONE);
        Check.taken("promise 23: it asked in an earlier tick only", RobotBounds::waiting,
                x -> (x.setClosed(31, true) ? 1 : 0) + x.tick(1) * 0 + x.asked(1), ShelfSwarm.NONE);
        Check.taken("promise 23: it asked before the cell was closed", RobotBounds::waiting,
                x -> (x.setClosed(26, true) ? 1 : 0) + x.asked(1), 26);
        Check.taken("promise 23: it asks for another one then", RobotBounds::waiting,
                x -> (x.setClosed(26, true) ? 1 : 0) + x.tick(1) * 0 + x.asked(1) * 100 + x.cellOf(1), -83);
        Check.taken("promise 23: the cell 0 is asked for", RobotBounds::cornerAsked, x -> x.asked(1), 0);
    }

    /** The robot 1 in the cell 1 wants to go home into the cell 0, where the robot 0 is SERVING. */
    private static ShelfSwarm cornerAsked() {
        ShelfSwarm x = new ShelfSwarm();
        x.addStation(0);
        x.addStation(2);
        x.addTray(0, 0, 9);
        x.addTray(8, 1, 9);
        x.addRobot(0, 0);
        Scene.ordered(x, 0, 0, 9);
        x.tick(1);
        x.wall(9);
        x.addRobot(1, 0);
        Scene.ordered(x, 1, 1, 9);
        x.tick(1);
        return x;
    }

    private static void askedAndStates() {
        Check.taken("promise 23: its state has become IDLE", RobotBounds::waiting,
                x -> x.giveUp(1, 0) * 10 + x.asked(1), 9);
        Check.taken("promise 23: its state has become DEAD", RobotBounds::waiting, x -> x.die(1) * 10 + x.asked(1), -11);
        Check.taken("promise 23: its state has become IDLE again", RobotBounds::waiting,
                x -> x.die(1) * 0 + x.repair(1) * 10 + x.asked(1), ShelfSwarm.NONE);
        Check.taken("promise 23: its state has become FETCHING again", RobotBounds::waiting,
                x -> x.giveUp(1, 0) * 0 + x.claim(1, 1, 0) * 0 + x.asked(1), ShelfSwarm.NONE);
        Check.taken("promise 23: another one's state has become another", RobotBounds::waiting,
                x -> x.giveUp(0, 0) * 10 + x.asked(1), 26);
    }
}
