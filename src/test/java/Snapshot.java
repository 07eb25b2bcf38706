/** All that can be asked of a swarm, as one text. */
final class Snapshot {
    private Snapshot() {
    }

    static String of(ShelfSwarm x) {
        StringBuilder text = new StringBuilder();
        text.append("time ").append(x.time()).append(" steps ").append(x.steps());
        text.append(" rings ").append(x.rings()).append(" yields ").append(x.yields());
        text.append(" knots ").append(x.knots()).append(" picks ").append(x.picks());
        for (int pick = 0; pick < x.picks(); pick++) {
            text.append(" p").append(x.pickedFrom(pick)).append(',').append(x.pickedFor(pick));
            text.append(',').append(x.pickedIn(pick));
        }
        for (int good = 0; good < 6; good++) {
            text.append(" s").append(x.stock(good)).append(',').append(x.stockByPicks(good));
        }
        addCells(text, x);
        addTrays(text, x);
        addRobots(text, x);
        addLines(text, x);
        return text.toString();
    }

    /** What comes of it: the numbers that are given next, and three ticks. */
    static String later(ShelfSwarm x) {
        StringBuilder text = new StringBuilder();
        text.append(told(x, y -> y.addOrder())).append(told(x, y -> y.addLine(0, 0, 1)));
        text.append(told(x, y -> y.addStation(33))).append(told(x, y -> y.addTray(33, 0, 1)));
        text.append(told(x, y -> y.addRobot(33, 0)));
        for (int i = 0; i < 3; i++) {
            text.append(" tick").append(told(x, y -> y.tick(1)));
            addRobots(text, x);
        }
        return text.toString();
    }

    private static String told(ShelfSwarm x, Check.Call call) {
        try {
            return " " + call.answer(x);
        } catch (RuntimeException e) {
            return " " + e.getClass().getSimpleName();
        }
    }

    private static void addCells(StringBuilder text, ShelfSwarm x) {
        for (int cell = 0; cell < 64; cell++) {
            int beside = cell % 8 == 0 ? cell + 1 : cell - 1;
            text.append(" c").append(x.distance(beside, cell)).append(',').append(x.robotIn(cell));
        }
    }

    private static void addTrays(StringBuilder text, ShelfSwarm x) {
        try {
            for (int tray = 0; tray < 16; tray++) {
                text.append(" t").append(x.amount(tray)).append(',').append(x.trayCell(tray));
            }
        } catch (IndexOutOfBoundsException e) {
            text.append(" no more trays");
        }
    }

    private static void addRobots(StringBuilder text, ShelfSwarm x) {
        try {
            for (int robot = 0; robot < 6; robot++) {
                text.append(" r").append(x.cellOf(robot)).append(',').append(x.state(robot));
                text.append(',').append(x.trayOf(robot)).append(',').append(x.asked(robot));
            }
        } catch (IndexOutOfBoundsException e) {
            text.append(" no more robots");
        }
    }

    private static void addLines(StringBuilder text, ShelfSwarm x) {
        for (int order = 0; order < 10; order++) {
            try {
                for (int line = 0; line < 3; line++) {
                    text.append(" l").append(x.left(order, line)).append(',').append(x.claimant(order, line));
                }
            } catch (IndexOutOfBoundsException e) {
                text.append(" no more lines");
            }
        }
    }
}
