/** Steps that many tests share. */
final class Scene {
    private Scene() {
    }

    /** Adds an order with one line, claimed by the station, and returns the order's number. */
    static int ordered(ShelfSwarm x, int station, int good, int amount) {
        int order = x.addOrder();
        int line = x.addLine(order, good, amount);
        x.claim(station, order, line);
        return order;
    }

    static void walls(ShelfSwarm x, int... cells) {
        for (int cell : cells) {
            x.wall(cell);
        }
    }

    static void close(ShelfSwarm x, boolean isClosed, int... cells) {
        for (int cell : cells) {
            x.setClosed(cell, isClosed);
        }
    }

    /** The orders 0 and 1; 0 has the lines 0 and 1, and 1 has none. */
    static ShelfSwarm orders() {
        ShelfSwarm x = new ShelfSwarm();
        x.addOrder();
        x.addOrder();
        x.addLine(0, 0, 1);
        x.addLine(0, 5, 50);
        return x;
    }

    /** The orders, and the stations 0 in the cell 0 and 1 in the cell 1, which has claimed the line 1. */
    static ShelfSwarm claimed() {
        ShelfSwarm x = orders();
        x.addStation(0);
        x.addStation(1);
        x.claim(1, 0, 1);
        return x;
    }

    /** All that there can be of everything: 3 stations, 16 trays, 6 robots, 10 orders of 3 claimed lines. */
    static ShelfSwarm full() {
        ShelfSwarm x = new ShelfSwarm();
        for (int station = 0; station < 3; station++) {
            x.addStation(61 + station);
        }
        for (int tray = 0; tray < 16; tray++) {
            x.addTray(tray, tray % 6, tray);
        }
        for (int robot = 0; robot < 6; robot++) {
            x.addRobot(16 + robot, robot);
        }
        for (int order = 0; order < 10; order++) {
            x.addOrder();
            for (int line = 0; line < 3; line++) {
                x.addLine(order, (order + line) % 6, 50);
                x.claim(order % 3, order, line);
            }
        }
        return x;
    }

    /**
     * A robot of each state: the robot 0 is DEAD with the tray 0 in the cell 58, 1 is SERVING with the
     * tray 1 in 7, 2 is BRINGING the tray 2 from 16 and is in 20, 3 is RETURNING the tray 3 to 40 and
     * is in 41, 4 is FETCHING the tray 4 from 32 and is in 38, 5 is IDLE in 0. The line 0 of the order
     * n is, or was, the one for which the robot n works; those of 0 and 3 are given up.
     */
    static ShelfSwarm busy() {
        ShelfSwarm x = new ShelfSwarm();
        x.addStation(7);
        x.addStation(23);
        x.addStation(60);
        employ(x, 57, 57, 5, 2);
        x.tick(2);
        x.die(0);
        x.giveUp(0, 0);
        employ(x, 7, 7, 0, 0);
        x.tick(1);
        employ(x, 16, 16, 1, 1);
        x.tick(1);
        employ(x, 40, 40, 4, 2);
        x.tick(3);
        x.giveUp(3, 0);
        employ(x, 39, 32, 2, 2);
        x.tick(1);
        x.addRobot(0, 5);
        return x;
    }

    private static void employ(ShelfSwarm x, int cell, int home, int good, int station) {
        x.addTray(home, good, 40);
        x.addRobot(cell, good);
        ordered(x, station, good, 30);
    }

    /** The robot 0 comes along the fourth row to the tray in the cell 31, and has reached the cell 25. */
    static ShelfSwarm coming() {
        ShelfSwarm x = new ShelfSwarm();
        x.addStation(63);
        x.addTray(31, 0, 5);
        x.addRobot(24, 0);
        ordered(x, 0, 0, 5);
        x.tick(1);
        return x;
    }

    /** Nothing but time has passed. */
    static ShelfSwarm at(int time) {
        ShelfSwarm x = new ShelfSwarm();
        while (x.time() < time) {
            x.tick(Math.min(50, time - x.time()));
        }
        return x;
    }

    /** A row of the floor, cells 0 to 7, that nothing leaves. */
    static ShelfSwarm corridor() {
        ShelfSwarm x = new ShelfSwarm();
        walls(x, 8, 9, 10, 11, 12, 13, 14, 15);
        return x;
    }

    /** One robot that serves the station 0 in cell 0 with the tray 0 of the cell 0, after two ticks. */
    static ShelfSwarm serving(int trayAmount, int lineAmount) {
        ShelfSwarm x = new ShelfSwarm();
        x.addStation(0);
        x.addTray(0, 2, trayAmount);
        x.addRobot(0, 4);
        ordered(x, 0, 2, lineAmount);
        x.tick(2);
        return x;
    }

    /** Where the robots are. */
    static String cells(ShelfSwarm x, int robots) {
        StringBuilder text = new StringBuilder();
        for (int robot = 0; robot < robots; robot++) {
            text.append(robot == 0 ? "" : " ").append(x.cellOf(robot));
        }
        return text.toString();
    }

    /** In which states the robots are. */
    static String states(ShelfSwarm x, int robots) {
        StringBuilder text = new StringBuilder();
        for (int robot = 0; robot < robots; robot++) {
            text.append(robot == 0 ? "" : " ").append(x.state(robot));
        }
        return text.toString();
    }

    /** For which cells the robots ask. */
    static String asks(ShelfSwarm x, int robots) {
        StringBuilder text = new StringBuilder();
        for (int robot = 0; robot < robots; robot++) {
            text.append(robot == 0 ? "" : " ").append(x.asked(robot));
        }
        return text.toString();
    }
}
