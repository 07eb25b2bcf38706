import java.util.ArrayList;

/**
 * A warehouse of robots that bring trays to pickers. "Point 1" to "point 8" below are the numbered
 * points of what happens in a tick, as the project's document tells them.
 */
public final class ShelfSwarm {
    public static final int NONE = -1;
    public static final int IDLE = 0, FETCHING = 1, BRINGING = 2, SERVING = 3, RETURNING = 4, DEAD = 5;

    private static final int COLUMNS = 8;
    private static final int CELLS = 64;
    private static final int SIDES = 4;
    private static final int GOODS = 6;
    private static final int MAX_STATIONS = 3;
    private static final int MAX_TRAYS = 16;
    private static final int MAX_ORDERS = 10;
    private static final int MAX_LINES = 3;
    private static final int MAX_ROBOTS = 6;
    private static final int MAX_RANK = 9;
    private static final int MAX_FILLING = 100;
    private static final int MAX_ORDERED = 50;
    private static final int MAX_TICKS = 50;
    private static final int MAX_TIME = 3000;

    private final Fleet fleet = new Fleet();
    private final ArrayList<Station> stations = new ArrayList<Station>();
    private final ArrayList<Tray> trays = new ArrayList<Tray>();
    private final ArrayList<Order> orders = new ArrayList<Order>();
    private final ArrayList<Pick> picks = new ArrayList<Pick>();
    private int time = 0;

    public ShelfSwarm() {
    }

    // ---- the floor

    public void wall(int cell) throws IllegalArgumentException, IllegalStateException {
        requireCell(cell);
        if (fleet.floor.isWall(cell) || isHome(cell) || isStation(cell) || fleet.robotAt(cell) != null) {
            throw new IllegalStateException("the cell is in use");
        }
        fleet.floor.buildWall(cell);
    }

    public boolean setClosed(int cell, boolean isClosed) throws IllegalArgumentException {
        requireCell(cell);
        boolean wasClosed = fleet.floor.isClosed(cell);
        fleet.floor.markClosed(cell, isClosed);
        return wasClosed;
    }

    public int distance(int from, int to) throws IllegalArgumentException {
        requireCell(from);
        requireCell(to);
        return fleet.floor.stepsBetween(from, to, NONE);
    }

    // ---- trays, stations and orders

    public int addStation(int cell) throws IllegalArgumentException, IllegalStateException {
        requireCell(cell);
        if (fleet.floor.isWall(cell) || isStation(cell) || stations.size() >= MAX_STATIONS) {
            throw new IllegalStateException("no station can be added there");
        }
        Station station = new Station(stations.size(), cell);
        stations.add(station);
        return station.number;
    }

    public int addTray(int home, int good, int amount) throws IllegalArgumentException, IllegalStateException {
        requireCell(home);
        requireGood(good);
        requireRange(amount, 0, MAX_FILLING);
        if (fleet.floor.isWall(home) || isHome(home) || trays.size() >= MAX_TRAYS) {
            throw new IllegalStateException("no tray can be added there");
        }
        Tray tray = new Tray(trays.size(), home, good);
        tray.put(amount);
        trays.add(tray);
        return tray.number;
    }

    public int fill(int tray, int amount)
            throws IndexOutOfBoundsException, IllegalArgumentException, IllegalStateException {
        Tray filled = findTray(tray);
        requireRange(amount, 1, MAX_FILLING);
        if (fleet.carrierOf(filled) != null) {
            throw new IllegalStateException("the tray is carried");
        }
        filled.put(amount);
        return filled.amount;
    }

    public int addOrder() throws IllegalStateException {
        if (orders.size() >= MAX_ORDERS) {
            throw new IllegalStateException("no more orders");
        }
        Order order = new Order(orders.size());
        orders.add(order);
        return order.number;
    }

    public int addLine(int order, int good, int amount)
            throws IndexOutOfBoundsException, IllegalArgumentException, IllegalStateException {
        Order extended = findOrder(order);
        requireGood(good);
        requireRange(amount, 1, MAX_ORDERED);
        if (extended.lines.size() >= MAX_LINES) {
            throw new IllegalStateException("the order has all its lines");
        }
        extended.lines.add(new Line(extended, good, amount));
        return extended.lines.size() - 1;
    }

    public int claim(int station, int order, int line) throws IndexOutOfBoundsException, IllegalStateException {
        Station claiming = findStation(station);
        Line claimed = findLine(order, line);
        if (claimed.station != null) {
            throw new IllegalStateException("the line is claimed");
        }
        claimed.station = claiming;
        claiming.claims.add(claimed);
        return claiming.claims.size();
    }

    public int giveUp(int order, int line) throws IndexOutOfBoundsException, IllegalStateException {
        Line given = findLine(order, line);
        Station station = given.station;
        if (station == null) {
            throw new IllegalStateException("the line is not claimed");
        }
        Robot worker = fleet.workerFor(given);
        if (worker != null) {
            worker.leaveLine();
        }
        station.forget(given);
        given.station = null;
        return station.number;
    }

    public int left(int order, int line) throws IndexOutOfBoundsException {
        return findLine(order, line).left;
    }

    public int claimant(int order, int line) throws IndexOutOfBoundsException {
        Station station = findLine(order, line).station;
        return station == null ? NONE : station.number;
    }

    public int amount(int tray) throws IndexOutOfBoundsException {
        return findTray(tray).amount;
    }

    public int trayCell(int tray) throws IndexOutOfBoundsException {
        Tray found = findTray(tray);
        Robot carrier = fleet.carrierOf(found);
        return carrier == null ? found.home : carrier.cell;
    }

    // ---- robots

    public int addRobot(int cell, int rank) throws IllegalArgumentException, IllegalStateException {
        requireCell(cell);
        requireRange(rank, 0, MAX_RANK);
        if (fleet.floor.isWall(cell) || fleet.robotAt(cell) != null || fleet.robots.size() >= MAX_ROBOTS) {
            throw new IllegalStateException("no robot can be added there");
        }
        Robot robot = new Robot(fleet.robots.size(), cell, rank);
        fleet.robots.add(robot);
        return robot.number;
    }

    public int die(int robot) throws IndexOutOfBoundsException, IllegalStateException {
        Robot dying = findRobot(robot);
        if (dying.state == DEAD) {
            throw new IllegalStateException("the robot is dead");
        }
        dying.breakDown();
        fleet.floor.markDead(dying.cell, true);
        return numberOf(dying.tray);
    }

    public int repair(int robot) throws IndexOutOfBoundsException, IllegalStateException {
        Robot repaired = findRobot(robot);
        if (repaired.state != DEAD) {
            throw new IllegalStateException("the robot is not dead");
        }
        repaired.become(repaired.tray == null ? IDLE : RETURNING);
        fleet.floor.markDead(repaired.cell, false);
        return repaired.state;
    }

    public int robotIn(int cell) throws IllegalArgumentException {
        requireCell(cell);
        Robot robot = fleet.robotAt(cell);
        return robot == null ? NONE : robot.number;
    }

    public int cellOf(int robot) throws IndexOutOfBoundsException {
        return findRobot(robot).cell;
    }

    public int state(int robot) throws IndexOutOfBoundsException {
        return findRobot(robot).state;
    }

    public int trayOf(int robot) throws IndexOutOfBoundsException {
        return numberOf(findRobot(robot).tray);
    }

    public int asked(int robot) throws IndexOutOfBoundsException {
        return findRobot(robot).asks;
    }

    // ---- ticks, stocks and picks

    public int tick(int ticks) throws IllegalArgumentException, IllegalStateException {
        requireRange(ticks, 1, MAX_TICKS);
        if (time + ticks > MAX_TIME) {
            throw new IllegalStateException("the time would be too late");
        }
        int picksBefore = picks.size();
        for (int i = 0; i < ticks; i++) {
            time++;
            pickFromServing();
            sendRobots();
            fleet.askForCells(time);
            fleet.settleRings();
            fleet.stepAside();
            fleet.moveOn();
            fleet.arrive();
        }
        return picks.size() - picksBefore;
    }

    public int time() {
        return time;
    }

    public int steps() {
        return fleet.steps;
    }

    public int rings() {
        return fleet.rings;
    }

    public int yields() {
        return fleet.yields;
    }

    public int knots() {
        return fleet.knots;
    }

    public int stock(int good) throws IllegalArgumentException {
        requireGood(good);
        int sum = 0;
        for (int i = 0; i < trays.size(); i++) {
            Tray tray = trays.get(i);
            if (tray.good == good) {
                sum += tray.amount;
            }
        }
        return sum;
    }

    public int stockByPicks(int good) throws IllegalArgumentException {
        requireGood(good);
        int sum = 0;
        for (int i = 0; i < trays.size(); i++) {
            Tray tray = trays.get(i);
            if (tray.good == good) {
                sum += tray.received;
            }
        }
        for (int i = 0; i < picks.size(); i++) {
            if (picks.get(i).tray.good == good) {
                sum--;
            }
        }
        return sum;
    }

    public int picks() {
        return picks.size();
    }

    public int pickedFrom(int pick) throws IndexOutOfBoundsException {
        return findPick(pick).tray.number;
    }

    public int pickedFor(int pick) throws IndexOutOfBoundsException {
        return findPick(pick).order.number;
    }

    public int pickedIn(int pick) throws IndexOutOfBoundsException {
        return findPick(pick).tick;
    }

    // ---- what the arguments must be

    private static void requireRange(int value, int least, int greatest) {
        if (value < least || value > greatest) {
            throw new IllegalArgumentException("an argument is out of range");
        }
    }

    private static void requireCell(int cell) {
        requireRange(cell, 0, CELLS - 1);
    }

    private static void requireGood(int good) {
        requireRange(good, 0, GOODS - 1);
    }

    private static void requireNumber(int number, int count) {
        if (number < 0 || number >= count) {
            throw new IndexOutOfBoundsException("there is no such number");
        }
    }

    private Station findStation(int station) {
        requireNumber(station, stations.size());
        return stations.get(station);
    }

    private Tray findTray(int tray) {
        requireNumber(tray, trays.size());
        return trays.get(tray);
    }

    private Order findOrder(int order) {
        requireNumber(order, orders.size());
        return orders.get(order);
    }

    private Line findLine(int order, int line) {
        ArrayList<Line> lines = findOrder(order).lines;
        requireNumber(line, lines.size());
        return lines.get(line);
    }

    private Robot findRobot(int robot) {
        requireNumber(robot, fleet.robots.size());
        return fleet.robots.get(robot);
    }

    private Pick findPick(int pick) {
        requireNumber(pick, picks.size());
        return picks.get(pick);
    }

    private static int numberOf(Tray tray) {
        return tray == null ? NONE : tray.number;
    }

    private boolean isHome(int cell) {
        for (int i = 0; i < trays.size(); i++) {
            if (trays.get(i).home == cell) {
                return true;
            }
        }
        return false;
    }

    private boolean isStation(int cell) {
        for (int i = 0; i < stations.size(); i++) {
            if (stations.get(i).cell == cell) {
                return true;
            }
        }
        return false;
    }

    // ---- what happens in a tick, before the robots move

    /** Point 2. */
    private void pickFromServing() {
        for (int i = 0; i < fleet.robots.size(); i++) {
            Robot robot = fleet.robots.get(i);
            if (robot.state == SERVING && robot.tray != null && robot.line != null) {
                pick(robot, robot.tray, robot.line);
            }
        }
    }

    private void pick(Robot robot, Tray tray, Line line) {
        tray.amount--;
        line.left--;
        picks.add(new Pick(tray, line.order, time));
        if (tray.amount == 0 || line.left == 0) {
            robot.leaveLine();
        }
    }

    /** Point 3. */
    private void sendRobots() {
        for (int i = 0; i < stations.size(); i++) {
            Station station = stations.get(i);
            if (!fleet.worksFor(station)) {
                sendRobotFor(station);
            }
        }
    }

    private void sendRobotFor(Station station) {
        for (int i = 0; i < station.claims.size(); i++) {
            Line line = station.claims.get(i);
            Tray tray = line.left == 0 ? null : nearestTray(station.cell, line.good);
            Robot robot = tray == null ? null : fleet.nearestIdle(tray.home);
            if (robot != null) {
                robot.fetch(tray, line);
                return;
            }
        }
    }

    private Tray nearestTray(int cell, int good) {
        Tray nearest = null;
        int least = CELLS;
        for (int i = 0; i < trays.size(); i++) {
            Tray tray = trays.get(i);
            if (tray.good == good && tray.amount > 0 && fleet.robotWith(tray) == null) {
                int steps = fleet.floor.stepsBetween(cell, tray.home, NONE);
                if (steps != NONE && steps < least) {
                    nearest = tray;
                    least = steps;
                }
            }
        }
        return nearest;
    }

    private static final class Tray {
        final int number;
        final int home;
        final int good;
        int amount = 0;
        int received = 0;

        Tray(int number, int home, int good) {
            this.number = number;
            this.home = home;
            this.good = good;
        }

        void put(int pieces) {
            amount += pieces;
            received += pieces;
        }
    }

    private static final class Order {
        final int number;
        final ArrayList<Line> lines = new ArrayList<Line>();

        Order(int number) {
            this.number = number;
        }
    }

    private static final class Line {
        final Order order;
        final int good;
        int left;
        /** The station that has claimed it; null if none has. */
        Station station = null;

        Line(Order order, int good, int left) {
            this.order = order;
            this.good = good;
            this.left = left;
        }
    }

    private static final class Station {
        final int number;
        final int cell;
        /** Its lines, in the order in which they were claimed. */
        final ArrayList<Line> claims = new ArrayList<Line>();

        Station(int number, int cell) {
            this.number = number;
            this.cell = cell;
        }

        void forget(Line line) {
            for (int i = 0; i < claims.size(); i++) {
                if (claims.get(i) == line) {
                    claims.remove(i);
                    return;
                }
            }
        }
    }

    private static final class Pick {
        final Tray tray;
        final Order order;
        final int tick;

        Pick(Tray tray, Order order, int tick) {
            this.tray = tray;
            this.order = order;
            this.tick = tick;
        }
    }

    private static final class Robot {
        final int number;
        final int rank;
        int cell;
        int state = IDLE;
        /** The tray that it carries, or for which it goes; null if there is none. */
        Tray tray = null;
        /** The line for which it works; null if it works for none. */
        Line line = null;
        /** The cell for which it asked in the latest tick and still asks. */
        int asks = NONE;
        int asksSince = 0;
        int avoids = NONE;

        Robot(int number, int cell, int rank) {
            this.number = number;
            this.cell = cell;
            this.rank = rank;
        }

        boolean isAbove(Robot other) {
            return rank > other.rank || rank == other.rank && number < other.number;
        }

        boolean goesBefore(Robot other) {
            return asksSince < other.asksSince || asksSince == other.asksSince && isAbove(other);
        }

        boolean isOnItsWay() {
            return state == FETCHING || state == BRINGING || state == RETURNING;
        }

        int goal() {
            if (state == FETCHING || state == RETURNING) {
                return tray == null ? NONE : tray.home;
            }
            return line == null || line.station == null ? NONE : line.station.cell;
        }

        void become(int newState) {
            state = newState;
            forgetAsking();
        }

        void moveTo(int newCell) {
            cell = newCell;
            forgetAsking();
        }

        /** What was asked for or avoided ends with each move and each change of the state. */
        private void forgetAsking() {
            asks = NONE;
            avoids = NONE;
        }

        void askFor(int wanted, int time) {
            if (wanted != asks) {
                asksSince = time;
            }
            asks = wanted;
        }

        void yieldTo(Robot other) {
            avoids = other.cell;
            asks = NONE;
        }

        void fetch(Tray wanted, Line worked) {
            tray = wanted;
            line = worked;
            become(FETCHING);
        }

        void leaveLine() {
            line = null;
            if (state == FETCHING) {
                tray = null;
                become(IDLE);
            } else {
                become(RETURNING);
            }
        }

        void breakDown() {
            line = null;
            if (state == FETCHING) {
                tray = null;
            }
            become(DEAD);
        }

        void reachGoal() {
            if (state == FETCHING) {
                become(BRINGING);
            } else if (state == BRINGING) {
                become(SERVING);
            } else if (state == RETURNING) {
                tray = null;
                become(IDLE);
            }
        }
    }

    /** The cells. A set of cells is a long, in which the bit c tells whether the cell c is in it. */
    private static final class Floor {
        private static final long LEFT_COLUMN = 0x0101010101010101L;
        private static final long RIGHT_COLUMN = LEFT_COLUMN << (COLUMNS - 1);

        private long walls = 0;
        private long closed = 0;
        private long dead = 0;

        private static long setOf(int cell) {
            return cell >= 0 && cell < CELLS ? 1L << cell : 0;
        }

        boolean isWall(int cell) {
            return (walls & setOf(cell)) != 0;
        }

        void buildWall(int cell) {
            walls |= setOf(cell);
        }

        boolean isClosed(int cell) {
            return (closed & setOf(cell)) != 0;
        }

        void markClosed(int cell, boolean isClosed) {
            closed = isClosed ? closed | setOf(cell) : closed & ~setOf(cell);
        }

        void markDead(int cell, boolean isDead) {
            dead = isDead ? dead | setOf(cell) : dead & ~setOf(cell);
        }

        private long openCells() {
            return ~(walls | closed | dead);
        }

        boolean isOpen(int cell) {
            return (openCells() & setOf(cell)) != 0;
        }

        /** The neighbour on a side, 0 to 3 in the document's order; NONE if it is not on the floor. */
        static int neighbour(int cell, int side) {
            int column = cell % COLUMNS;
            switch (side) {
                case 0:
                    return cell >= COLUMNS ? cell - COLUMNS : NONE;
                case 1:
                    return column > 0 ? cell - 1 : NONE;
                case 2:
                    return column < COLUMNS - 1 ? cell + 1 : NONE;
                default:
                    return cell < CELLS - COLUMNS ? cell + COLUMNS : NONE;
            }
        }

        private static long neighboursOf(long cells) {
            return cells << COLUMNS | cells >>> COLUMNS
                    | (cells & ~RIGHT_COLUMN) << 1 | (cells & ~LEFT_COLUMN) >>> 1;
        }

        /** The distance by ways that do not enter the avoided cell; NONE if there is no such way. */
        int stepsBetween(int from, int to, int avoided) {
            if (from == to) {
                return 0;
            }
            long free = openCells() & ~setOf(avoided);
            long goal = free & setOf(to);
            long reached = setOf(from);
            for (int steps = 1; steps < CELLS && goal != 0; steps++) {
                long next = reached | neighboursOf(reached) & free;
                if ((next & goal) != 0) {
                    return steps;
                }
                if (next == reached) {
                    return NONE;
                }
                reached = next;
            }
            return NONE;
        }

        /** The neighbour that is next on a shortest way to the goal; NONE if there is no way. */
        int nextCell(int from, int goal, int avoided) {
            int nearest = NONE;
            int least = CELLS;
            for (int side = 0; side < SIDES; side++) {
                int cell = neighbour(from, side);
                if (isOpen(cell) && cell != avoided) {
                    int steps = stepsBetween(cell, goal, avoided);
                    if (steps != NONE && steps < least) {
                        nearest = cell;
                        least = steps;
                    }
                }
            }
            return nearest;
        }
    }

    /** The robots, the floor on which they move, and points 4 to 8. */
    private static final class Fleet {
        final Floor floor = new Floor();
        final ArrayList<Robot> robots = new ArrayList<Robot>();
        int steps = 0;
        int rings = 0;
        int yields = 0;
        int knots = 0;

        // Used again in every tick, so that moving makes no objects.
        private final ArrayList<Robot> ring = new ArrayList<Robot>();
        private final ArrayList<Robot> queue = new ArrayList<Robot>();

        Robot robotAt(int cell) {
            for (int i = 0; i < robots.size(); i++) {
                Robot robot = robots.get(i);
                if (robot.cell == cell) {
                    return robot;
                }
            }
            return null;
        }

        /** The robot that carries the tray or goes for it; null if there is none. */
        Robot robotWith(Tray tray) {
            for (int i = 0; i < robots.size(); i++) {
                Robot robot = robots.get(i);
                if (robot.tray == tray) {
                    return robot;
                }
            }
            return null;
        }

        Robot carrierOf(Tray tray) {
            Robot robot = robotWith(tray);
            return robot == null || robot.state == FETCHING ? null : robot;
        }

        Robot workerFor(Line line) {
            for (int i = 0; i < robots.size(); i++) {
                Robot robot = robots.get(i);
                if (robot.line == line) {
                    return robot;
                }
            }
            return null;
        }

        boolean worksFor(Station station) {
            for (int i = 0; i < robots.size(); i++) {
                Line line = robots.get(i).line;
                if (line != null && line.station == station) {
                    return true;
                }
            }
            return false;
        }

        Robot nearestIdle(int home) {
            Robot nearest = null;
            int least = CELLS;
            for (int i = 0; i < robots.size(); i++) {
                Robot robot = robots.get(i);
                if (robot.state == IDLE) {
                    int way = floor.stepsBetween(robot.cell, home, NONE);
                    if (way != NONE && way < least) {
                        nearest = robot;
                        least = way;
                    }
                }
            }
            return nearest;
        }

        private void moveRobot(Robot robot, int cell) {
            robot.moveTo(cell);
            steps++;
        }

        /** Point 4. */
        void askForCells(int time) {
            for (int i = 0; i < robots.size(); i++) {
                Robot robot = robots.get(i);
                robot.askFor(wantedCell(robot), time);
            }
        }

        private int wantedCell(Robot robot) {
            int goal = robot.goal();
            if (!robot.isOnItsWay() || robot.cell == goal) {
                return NONE;
            }
            int cell = floor.nextCell(robot.cell, goal, robot.avoids);
            if (cell == NONE && robot.avoids != NONE) {
                robot.avoids = NONE;
                cell = floor.nextCell(robot.cell, goal, NONE);
            }
            return cell;
        }

        /** Point 5. */
        void settleRings() {
            for (int i = 0; i < robots.size(); i++) {
                gatherRing(robots.get(i));
                if (ring.size() > 2) {
                    turnRing();
                } else if (ring.size() == 2) {
                    breakRing(ring.get(0), ring.get(1));
                }
            }
        }

        /** Puts the robots of a ring, of which the given one is the lowest, into the row; none if it is not. */
        private void gatherRing(Robot lowest) {
            ring.clear();
            Robot robot = lowest;
            for (int i = 0; i < MAX_ROBOTS; i++) {
                ring.add(robot);
                robot = robotAt(robot.asks);
                if (robot == lowest) {
                    return;
                }
                if (robot == null || robot.number < lowest.number) {
                    break;
                }
            }
            ring.clear();
        }

        private void turnRing() {
            for (int i = 0; i < ring.size(); i++) {
                Robot robot = ring.get(i);
                moveRobot(robot, robot.asks);
            }
            rings++;
        }

        private void breakRing(Robot one, Robot other) {
            Robot upper = one.isAbove(other) ? one : other;
            Robot lower = upper == one ? other : one;
            if (canYieldTo(lower, upper)) {
                lower.yieldTo(upper);
                yields++;
            } else if (canYieldTo(upper, lower)) {
                upper.yieldTo(lower);
                yields++;
            } else {
                knots++;
            }
        }

        private boolean canYieldTo(Robot robot, Robot other) {
            return floor.nextCell(robot.cell, robot.goal(), other.cell) != NONE;
        }

        /** Point 6. */
        void stepAside() {
            for (int i = 0; i < robots.size(); i++) {
                Robot robot = robots.get(i);
                if (robot.state == IDLE && isAskedFor(robot.cell)) {
                    int cell = cellAside(robot.cell);
                    if (cell != NONE) {
                        moveRobot(robot, cell);
                    }
                }
            }
        }

        private int cellAside(int from) {
            for (int side = 0; side < SIDES; side++) {
                int cell = Floor.neighbour(from, side);
                if (floor.isOpen(cell) && robotAt(cell) == null && !isAskedFor(cell)) {
                    return cell;
                }
            }
            return NONE;
        }

        private boolean isAskedFor(int cell) {
            for (int i = 0; i < robots.size(); i++) {
                if (robots.get(i).asks == cell) {
                    return true;
                }
            }
            return false;
        }

        /** Point 7. */
        void moveOn() {
            lineUpAskers();
            for (int i = 0; i < queue.size(); i++) {
                Robot robot = queue.get(i);
                if (robotAt(robot.asks) == null) {
                    moveRobot(robot, robot.asks);
                }
            }
        }

        private void lineUpAskers() {
            queue.clear();
            for (int i = 0; i < robots.size(); i++) {
                Robot robot = robots.get(i);
                if (robot.asks != NONE) {
                    queue.add(placeInQueue(robot), robot);
                }
            }
        }

        private int placeInQueue(Robot robot) {
            int place = 0;
            while (place < queue.size() && queue.get(place).goesBefore(robot)) {
                place++;
            }
            return place;
        }

        /** Point 8. */
        void arrive() {
            for (int i = 0; i < robots.size(); i++) {
                Robot robot = robots.get(i);
                if (robot.cell == robot.goal()) {
                    robot.reachGoal();
                }
            }
        }
    }
}
