import java.util.ArrayList;
import java.util.List;

/**
 * The document once more, word by word and in another form than the program: rows of numbers, ways
 * that are searched cell by cell, and asks that are all kept. It answers a code where a call throws.
 */
final class PlainModel {
    static final int INDEX = -1001;
    static final int ARGUMENT = -1002;
    static final int STATE = -1003;
    private static final int NONE = -1;
    private static final int IDLE = 0;
    private static final int FETCHING = 1;
    private static final int BRINGING = 2;
    private static final int SERVING = 3;
    private static final int RETURNING = 4;
    private static final int DEAD = 5;

    private final boolean[] walls = new boolean[64];
    private final boolean[] closed = new boolean[64];
    private final List<Integer> stationCells = new ArrayList<>();
    private final List<Integer> trayHomes = new ArrayList<>();
    private final List<Integer> trayGoods = new ArrayList<>();
    private final int[] trayAmounts = new int[16];
    private final int[] cameIn = new int[6];
    private final int[] lineCounts = new int[10];
    private int orderCount = 0;
    // The line l of the order o is the row 3 * o + l.
    private final int[] lineGoods = new int[30];
    private final int[] lineLefts = new int[30];
    private final int[] lineStations = new int[30];
    private final List<Integer> claimOrder = new ArrayList<>();
    private int robotCount = 0;
    private final int[] cells = new int[6];
    private final int[] ranks = new int[6];
    private final int[] states = new int[6];
    private final int[] robotTrays = new int[6];
    private final int[] robotLines = new int[6];
    private final int[] avoided = new int[6];
    private final int[][] asks = new int[6][3001];
    private final int[][] askMoments = new int[6][3001];
    private final int[] latestEvents = new int[6];
    private final boolean[] askStands = new boolean[6];
    private int moment = 0;
    private final List<int[]> pickList = new ArrayList<>();
    private int time = 0;
    private int steps = 0;
    private int rings = 0;
    private int yields = 0;
    private int knots = 0;

    PlainModel() {
        for (int[] row : asks) {
            java.util.Arrays.fill(row, NONE);
        }
    }

    // ---- the floor

    private static boolean isCell(int cell) {
        return 0 <= cell && cell <= 63;
    }

    private int robotAt(int cell) {
        for (int r = 0; r < robotCount; r++) {
            if (cells[r] == cell) {
                return r;
            }
        }
        return NONE;
    }

    private boolean isOpen(int cell) {
        int robot = robotAt(cell);
        return !walls[cell] && !closed[cell] && !(robot != NONE && states[robot] == DEAD);
    }

    private static List<Integer> neighbours(int cell) {
        List<Integer> found = new ArrayList<>(4);
        if (cell / 8 > 0) {
            found.add(cell - 8);
        }
        if (cell % 8 > 0) {
            found.add(cell - 1);
        }
        if (cell % 8 < 7) {
            found.add(cell + 1);
        }
        if (cell / 8 < 7) {
            found.add(cell + 8);
        }
        return found;
    }

    private int way(int from, int to, int notThrough) {
        int[] far = new int[64];
        java.util.Arrays.fill(far, NONE);
        List<Integer> row = new ArrayList<>();
        far[from] = 0;
        row.add(from);
        for (int i = 0; i < row.size(); i++) {
            int cell = row.get(i);
            if (cell == to) {
                return far[cell];
            }
            for (int next : neighbours(cell)) {
                if (far[next] == NONE && next != notThrough && isOpen(next)) {
                    far[next] = far[cell] + 1;
                    row.add(next);
                }
            }
        }
        return NONE;
    }

    int wall(int cell) {
        if (!isCell(cell)) {
            return ARGUMENT;
        }
        if (walls[cell] || trayHomes.contains(cell) || stationCells.contains(cell) || robotAt(cell) != NONE) {
            return STATE;
        }
        walls[cell] = true;
        return 0;
    }

    int setClosed(int cell, boolean isClosed) {
        if (!isCell(cell)) {
            return ARGUMENT;
        }
        int was = closed[cell] ? 1 : 0;
        closed[cell] = isClosed;
        return was;
    }

    int distance(int from, int to) {
        return isCell(from) && isCell(to) ? way(from, to, NONE) : ARGUMENT;
    }

    // ---- trays, stations and orders

    int addStation(int cell) {
        if (!isCell(cell)) {
            return ARGUMENT;
        }
        if (walls[cell] || stationCells.contains(cell) || stationCells.size() == 3) {
            return STATE;
        }
        stationCells.add(cell);
        return stationCells.size() - 1;
    }

    int addTray(int home, int good, int amount) {
        if (!isCell(home) || good < 0 || good > 5 || amount < 0 || amount > 100) {
            return ARGUMENT;
        }
        if (walls[home] || trayHomes.contains(home) || trayHomes.size() == 16) {
            return STATE;
        }
        trayHomes.add(home);
        trayGoods.add(good);
        trayAmounts[trayHomes.size() - 1] = amount;
        cameIn[good] += amount;
        return trayHomes.size() - 1;
    }

    private boolean isTray(int tray) {
        return 0 <= tray && tray < trayHomes.size();
    }

    private int carrier(int tray) {
        for (int r = 0; r < robotCount; r++) {
            if (robotTrays[r] == tray && states[r] != FETCHING) {
                return r;
            }
        }
        return NONE;
    }

    private boolean isFetched(int tray) {
        for (int r = 0; r < robotCount; r++) {
            if (robotTrays[r] == tray && states[r] == FETCHING) {
                return true;
            }
        }
        return false;
    }

    int fill(int tray, int amount) {
        if (!isTray(tray)) {
            return INDEX;
        }
        if (amount < 1 || amount > 100) {
            return ARGUMENT;
        }
        if (carrier(tray) != NONE) {
            return STATE;
        }
        trayAmounts[tray] += amount;
        cameIn[trayGoods.get(tray)] += amount;
        return trayAmounts[tray];
    }

    int addOrder() {
        return orderCount == 10 ? STATE : orderCount++;
    }

    private boolean isOrder(int order) {
        return 0 <= order && order < orderCount;
    }

    private boolean isLine(int order, int line) {
        return isOrder(order) && 0 <= line && line < lineCounts[order];
    }

    int addLine(int order, int good, int amount) {
        if (!isOrder(order)) {
            return INDEX;
        }
        if (good < 0 || good > 5 || amount < 1 || amount > 50) {
            return ARGUMENT;
        }
        if (lineCounts[order] == 3) {
            return STATE;
        }
        int row = 3 * order + lineCounts[order];
        lineGoods[row] = good;
        lineLefts[row] = amount;
        lineStations[row] = NONE;
        return lineCounts[order]++;
    }

    int claim(int station, int order, int line) {
        if (station < 0 || station >= stationCells.size() || !isLine(order, line)) {
            return INDEX;
        }
        int row = 3 * order + line;
        if (lineStations[row] != NONE) {
            return STATE;
        }
        lineStations[row] = station;
        claimOrder.add(row);
        int count = 0;
        for (int claimed : claimOrder) {
            count += lineStations[claimed] == station ? 1 : 0;
        }
        return count;
    }

    int giveUp(int order, int line) {
        if (!isLine(order, line)) {
            return INDEX;
        }
        int row = 3 * order + line;
        int station = lineStations[row];
        if (station == NONE) {
            return STATE;
        }
        for (int r = 0; r < robotCount; r++) {
            if (robotLines[r] == row) {
                stopWorking(r);
            }
        }
        lineStations[row] = NONE;
        claimOrder.remove(Integer.valueOf(row));
        return station;
    }

    private void stopWorking(int robot) {
        robotLines[robot] = NONE;
        if (states[robot] == FETCHING) {
            robotTrays[robot] = NONE;
            change(robot, IDLE);
        } else {
            change(robot, RETURNING);
        }
    }

    int left(int order, int line) {
        return isLine(order, line) ? lineLefts[3 * order + line] : INDEX;
    }

    int claimant(int order, int line) {
        return isLine(order, line) ? lineStations[3 * order + line] : INDEX;
    }

    int amount(int tray) {
        return isTray(tray) ? trayAmounts[tray] : INDEX;
    }

    int trayCell(int tray) {
        if (!isTray(tray)) {
            return INDEX;
        }
        int robot = carrier(tray);
        return robot == NONE ? trayHomes.get(tray) : cells[robot];
    }

    // ---- robots

    int addRobot(int cell, int rank) {
        if (!isCell(cell) || rank < 0 || rank > 9) {
            return ARGUMENT;
        }
        if (walls[cell] || robotAt(cell) != NONE || robotCount == 6) {
            return STATE;
        }
        cells[robotCount] = cell;
        ranks[robotCount] = rank;
        states[robotCount] = IDLE;
        robotTrays[robotCount] = NONE;
        robotLines[robotCount] = NONE;
        avoided[robotCount] = NONE;
        return robotCount++;
    }

    private boolean isRobot(int robot) {
        return 0 <= robot && robot < robotCount;
    }

    private void change(int robot, int state) {
        states[robot] = state;
        avoided[robot] = NONE;
        askStands[robot] = false;
        latestEvents[robot] = ++moment;
    }

    private void move(int robot, int cell) {
        cells[robot] = cell;
        avoided[robot] = NONE;
        askStands[robot] = false;
        latestEvents[robot] = ++moment;
        steps++;
    }

    int die(int robot) {
        if (!isRobot(robot)) {
            return INDEX;
        }
        if (states[robot] == DEAD) {
            return STATE;
        }
        if (states[robot] == FETCHING) {
            robotTrays[robot] = NONE;
        }
        robotLines[robot] = NONE;
        change(robot, DEAD);
        return robotTrays[robot];
    }

    int repair(int robot) {
        if (!isRobot(robot)) {
            return INDEX;
        }
        if (states[robot] != DEAD) {
            return STATE;
        }
        change(robot, robotTrays[robot] == NONE ? IDLE : RETURNING);
        return states[robot];
    }

    int robotIn(int cell) {
        return isCell(cell) ? robotAt(cell) : ARGUMENT;
    }

    int cellOf(int robot) {
        return isRobot(robot) ? cells[robot] : INDEX;
    }

    int state(int robot) {
        return isRobot(robot) ? states[robot] : INDEX;
    }

    int trayOf(int robot) {
        return isRobot(robot) ? robotTrays[robot] : INDEX;
    }

    int asked(int robot) {
        return isRobot(robot) ? standingAsk(robot) : INDEX;
    }

    private int standingAsk(int robot) {
        return askStands[robot] ? asks[robot][time] : NONE;
    }

    // ---- ticks, stocks and picks

    int tick(int ticks) {
        if (ticks < 1 || ticks > 50) {
            return ARGUMENT;
        }
        if (time + ticks > 3000) {
            return STATE;
        }
        int before = pickList.size();
        for (int i = 0; i < ticks; i++) {
            time++;
            point2();
            point3();
            point4();
            point5();
            point6();
            point7();
            point8();
        }
        return pickList.size() - before;
    }

    private void point2() {
        for (int r = 0; r < robotCount; r++) {
            if (states[r] == SERVING) {
                int tray = robotTrays[r];
                int row = robotLines[r];
                trayAmounts[tray]--;
                lineLefts[row]--;
                pickList.add(new int[] {tray, row / 3, time});
                if (lineLefts[row] == 0 || trayAmounts[tray] == 0) {
                    stopWorking(r);
                }
            }
        }
    }

    private boolean isWorkedFor(int station) {
        for (int r = 0; r < robotCount; r++) {
            if (robotLines[r] != NONE && lineStations[robotLines[r]] == station) {
                return true;
            }
        }
        return false;
    }

    private void point3() {
        for (int s = 0; s < stationCells.size(); s++) {
            if (isWorkedFor(s)) {
                continue;
            }
            for (int row : claimOrder) {
                if (lineStations[row] != s || lineLefts[row] == 0) {
                    continue;
                }
                int tray = bestTray(s, lineGoods[row]);
                int robot = tray == NONE ? NONE : bestRobot(trayHomes.get(tray));
                if (robot != NONE) {
                    robotTrays[robot] = tray;
                    robotLines[robot] = row;
                    change(robot, FETCHING);
                    break;
                }
            }
        }
    }

    private int bestTray(int station, int good) {
        int best = NONE;
        for (int t = trayHomes.size() - 1; t >= 0; t--) {
            boolean fits = trayGoods.get(t) == good && trayAmounts[t] > 0 && carrier(t) == NONE && !isFetched(t);
            int far = fits ? way(stationCells.get(station), trayHomes.get(t), NONE) : NONE;
            if (far != NONE && (best == NONE || far <= way(stationCells.get(station), trayHomes.get(best), NONE))) {
                best = t;
            }
        }
        return best;
    }

    private int bestRobot(int home) {
        int best = NONE;
        for (int r = robotCount - 1; r >= 0; r--) {
            int far = states[r] == IDLE ? way(cells[r], home, NONE) : NONE;
            if (far != NONE && (best == NONE || far <= way(cells[best], home, NONE))) {
                best = r;
            }
        }
        return best;
    }

    private int goal(int robot) {
        switch (states[robot]) {
            case FETCHING:
            case RETURNING:
                return trayHomes.get(robotTrays[robot]);
            case BRINGING:
            case SERVING:
                return stationCells.get(lineStations[robotLines[robot]]);
            default:
                return NONE;
        }
    }

    private int wouldAskFor(int robot, int avoid) {
        int best = NONE;
        int bestFar = NONE;
        for (int cell : neighbours(cells[robot])) {
            if (isOpen(cell) && cell != avoid) {
                int far = way(cell, goal(robot), avoid);
                if (far != NONE && (best == NONE || far < bestFar)) {
                    best = cell;
                    bestFar = far;
                }
            }
        }
        return best;
    }

    private void point4() {
        for (int r = 0; r < robotCount; r++) {
            askStands[r] = false;
            boolean goes = states[r] == FETCHING || states[r] == BRINGING || states[r] == RETURNING;
            if (!goes || cells[r] == goal(r)) {
                continue;
            }
            if (avoided[r] != NONE && wouldAskFor(r, avoided[r]) == NONE) {
                avoided[r] = NONE;
            }
            int cell = wouldAskFor(r, avoided[r]);
            asks[r][time] = cell;
            askMoments[r][time] = ++moment;
            askStands[r] = cell != NONE;
        }
    }

    private int askedSince(int robot) {
        int since = time;
        while (since > 1 && asks[robot][since - 1] == asks[robot][time]
                && askMoments[robot][since - 1] > latestEvents[robot]) {
            since--;
        }
        return since;
    }

    private boolean isAbove(int one, int other) {
        return ranks[one] != ranks[other] ? ranks[one] > ranks[other] : one < other;
    }

    private void point5() {
        for (int r = 0; r < robotCount; r++) {
            List<Integer> ring = ringOf(r);
            if (ring.size() >= 3) {
                int[] into = new int[ring.size()];
                for (int i = 0; i < into.length; i++) {
                    into[i] = standingAsk(ring.get(i));
                }
                for (int i = 0; i < into.length; i++) {
                    move(ring.get(i), into[i]);
                }
                rings++;
            } else if (ring.size() == 2) {
                int lower = isAbove(ring.get(0), ring.get(1)) ? ring.get(1) : ring.get(0);
                int upper = ring.get(0) + ring.get(1) - lower;
                if (!yieldsTo(lower, upper) && !yieldsTo(upper, lower)) {
                    knots++;
                }
            }
        }
    }

    /** The ring in which the robot has the lowest number; empty if there is none. */
    private List<Integer> ringOf(int lowest) {
        List<Integer> ring = new ArrayList<>();
        int robot = lowest;
        while (robot != NONE && robot >= lowest && !ring.contains(robot)) {
            ring.add(robot);
            int cell = standingAsk(robot);
            robot = cell == NONE ? NONE : robotAt(cell);
        }
        return robot == lowest ? ring : new ArrayList<>();
    }

    private boolean yieldsTo(int robot, int other) {
        if (wouldAskFor(robot, cells[other]) == NONE) {
            return false;
        }
        avoided[robot] = cells[other];
        asks[robot][time] = NONE;
        askStands[robot] = false;
        yields++;
        return true;
    }

    private boolean isAskedFor(int cell) {
        for (int r = 0; r < robotCount; r++) {
            if (standingAsk(r) == cell) {
                return true;
            }
        }
        return false;
    }

    private void point6() {
        for (int r = 0; r < robotCount; r++) {
            if (states[r] == IDLE && isAskedFor(cells[r])) {
                for (int cell : neighbours(cells[r])) {
                    if (isOpen(cell) && robotAt(cell) == NONE && !isAskedFor(cell)) {
                        move(r, cell);
                        break;
                    }
                }
            }
        }
    }

    private void point7() {
        List<Integer> row = new ArrayList<>();
        int[] since = new int[6];
        for (int r = 0; r < robotCount; r++) {
            if (standingAsk(r) != NONE) {
                row.add(r);
                since[r] = askedSince(r);
            }
        }
        row.sort((one, other) -> since[one] != since[other] ? Integer.compare(since[one], since[other])
                : isAbove(one, other) ? -1 : 1);
        for (int r : row) {
            if (robotAt(standingAsk(r)) == NONE) {
                move(r, standingAsk(r));
            }
        }
    }

    private void point8() {
        for (int r = 0; r < robotCount; r++) {
            if (cells[r] != goal(r)) {
                continue;
            }
            if (states[r] == FETCHING) {
                change(r, BRINGING);
            } else if (states[r] == BRINGING) {
                change(r, SERVING);
            } else if (states[r] == RETURNING) {
                robotTrays[r] = NONE;
                change(r, IDLE);
            }
        }
    }

    int time() {
        return time;
    }

    int steps() {
        return steps;
    }

    int rings() {
        return rings;
    }

    int yields() {
        return yields;
    }

    int knots() {
        return knots;
    }

    int stock(int good) {
        if (good < 0 || good > 5) {
            return ARGUMENT;
        }
        int sum = 0;
        for (int t = 0; t < trayHomes.size(); t++) {
            sum += trayGoods.get(t) == good ? trayAmounts[t] : 0;
        }
        return sum;
    }

    int stockByPicks(int good) {
        if (good < 0 || good > 5) {
            return ARGUMENT;
        }
        int sum = cameIn[good];
        for (int[] pick : pickList) {
            sum -= trayGoods.get(pick[0]) == good ? 1 : 0;
        }
        return sum;
    }

    int picks() {
        return pickList.size();
    }

    /** What a pick was from (0), for (1) or in (2). */
    int picked(int pick, int part) {
        return 0 <= pick && pick < pickList.size() ? pickList.get(pick)[part] : INDEX;
    }
}
