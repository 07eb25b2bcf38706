/** Steps that many tests share. */
final class Scene {
    private Scene() {
    }

    /** Adds an order with one line, claimed by the station, and returns the order's number. */
    static int ordered(ShelfSwarm x, int station, int good, int amount) {
        int order = x.addOrder();
        int line = x.addLine(order, good, amount);
        x.claim(station, order, line);
        return order;
    }

    static void walls(ShelfSwarm x, int... cells) {
        for (int cell : cells) {
            x.wall(cell);
        }
    }

    static void close(ShelfSwarm x, boolean isClosed, int... cells) {
        for (int cell : cells) {
            x.setClosed(cell, isClosed);
        }
    }

    /** A row of the floor, cells 0 to 7, that nothing leaves. */
    static ShelfSwarm corridor() {
        ShelfSwarm x = new ShelfSwarm();
        walls(x, 8, 9, 10, 11, 12, 13, 14, 15);
        return x;
    }

    /** One robot that serves the station 0 in cell 0 with the tray 0 of the cell 0, after two ticks. */
    static ShelfSwarm serving(int trayAmount, int lineAmount) {
        ShelfSwarm x = new ShelfSwarm();
        x.addStation(0);
        x.addTray(0, 2, trayAmount);
        x.addRobot(0, 4);
        ordered(x, 0, 2, lineAmount);
        x.tick(2);
        return x;
    }

    /** Where the robots are. */
    static String cells(ShelfSwarm x, int robots) {
        StringBuilder text = new StringBuilder();
        for (int robot = 0; robot < robots; robot++) {
            text.append(robot == 0 ? "" : " ").append(x.cellOf(robot));
        }
        return text.toString();
    }

    /** In which states the robots are. */
    static String states(ShelfSwarm x, int robots) {
        StringBuilder text = new StringBuilder();
        for (int robot = 0; robot < robots; robot++) {
            text.append(robot == 0 ? "" : " ").append(x.state(robot));
        }
        return text.toString();
    }

    /** For which cells the robots ask. */
    static String asks(ShelfSwarm x, int robots) {
        StringBuilder text = new StringBuilder();
        for (int robot = 0; robot < robots; robot++) {
            text.append(robot == 0 ? "" : " ").append(x.asked(robot));
        }
        return text.toString();
    }
}
