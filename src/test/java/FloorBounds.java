/** The boundary cases of the promises 1 to 4, and of what "Terms" says about the floor. */
final class FloorBounds {
    private static final int[] OFF_THE_FLOOR = {-1, 64, Integer.MIN_VALUE, Integer.MAX_VALUE};

    private FloorBounds() {
    }

    static void run() {
        nothingInNewObject();
        wallArguments();
        wallRefused();
        wallTaken();
        closedArguments();
        closedTaken();
        distanceArguments();
        distanceOfTheSameCell();
        distanceOfCellsThatAreNotOpen();
        edgesOfTheFloor();
        edgesOfRows();
        corners();
    }

    private static long wallAt(ShelfSwarm x, int cell) {
        x.wall(cell);
        return 0;
    }

    private static long closedAt(ShelfSwarm x, int cell, boolean isClosed) {
        return x.setClosed(cell, isClosed) ? 1 : 0;
    }

    private static void nothingInNewObject() {
        Check.taken("promise 1: the time of a new object", ShelfSwarm::new, x -> x.time(), 0);
        Check.taken("promise 1: the first tick", ShelfSwarm::new, x -> x.tick(1) * 10 + x.time(), 1);
        Check.refused("promise 1: no station 0", Scene::orders, Check.INDEX, x -> x.claim(0, 0, 0));
        Check.refused("promise 1: no tray 0", ShelfSwarm::new, Check.INDEX, x -> x.amount(0));
        Check.refused("promise 1: no order 0", ShelfSwarm::new, Check.INDEX, x -> x.addLine(0, 0, 1));
        Check.refused("promise 1: no line 0", ShelfSwarm::new, Check.INDEX, x -> x.left(0, 0));
        Check.refused("promise 1: no robot 0", ShelfSwarm::new, Check.INDEX, x -> x.cellOf(0));
        Check.refused("promise 1: no pick 0", ShelfSwarm::new, Check.INDEX, x -> x.pickedIn(0));
    }

    private static void wallArguments() {
        for (int cell : OFF_THE_FLOOR) {
            Check.refused("promise 2: wall(" + cell + ")", ShelfSwarm::new, Check.ARGUMENT, x -> wallAt(x, cell));
            Check.refused("promise 2: wall(" + cell + "), all busy", Scene::busy, Check.ARGUMENT, x -> wallAt(x, cell));
        }
        Check.taken("promise 2: wall(0)", ShelfSwarm::new, x -> wallAt(x, 0) + x.distance(1, 0), ShelfSwarm.NONE);
        Check.taken("promise 2: wall(63)", ShelfSwarm::new, x -> wallAt(x, 63) + x.distance(62, 63), ShelfSwarm.NONE);
    }

    private static void wallRefused() {
        Check.Scenery walled = () -> {
            ShelfSwarm x = new ShelfSwarm();
            x.wall(5);
            return x;
        };
        Check.refused("promise 2: a wall", walled, Check.STATE, x -> wallAt(x, 5));
        Check.refused("promise 2: the first station", Scene::full, Check.STATE, x -> wallAt(x, 61));
        Check.refused("promise 2: the last station", Scene::full, Check.STATE, x -> wallAt(x, 63));
        Check.refused("promise 2: the first tray's home", Scene::full, Check.STATE, x -> wallAt(x, 0));
        Check.refused("promise 2: the last tray's home", Scene::full, Check.STATE, x -> wallAt(x, 15));
        Check.refused("promise 2: the first robot", Scene::full, Check.STATE, x -> wallAt(x, 16));
        Check.refused("promise 2: the last robot", Scene::full, Check.STATE, x -> wallAt(x, 21));
        Check.refused("promise 2: the home of a tray that is carried", Scene::busy, Check.STATE, x -> wallAt(x, 16));
        Check.refused("promise 2: the home of a tray that is fetched", Scene::busy, Check.STATE, x -> wallAt(x, 32));
        Check.refused("promise 2: a DEAD robot", Scene::busy, Check.STATE, x -> wallAt(x, 58));
        Check.refused("promise 2: a BRINGING robot", Scene::busy, Check.STATE, x -> wallAt(x, 20));
        Check.refused("promise 2: a RETURNING robot", Scene::busy, Check.STATE, x -> wallAt(x, 41));
        Check.refused("promise 2: a FETCHING robot", Scene::busy, Check.STATE, x -> wallAt(x, 38));
        Check.refused("promise 2: an IDLE robot", Scene::busy, Check.STATE, x -> wallAt(x, 0));
    }

    private static void wallTaken() {
        Check.taken("promise 2: a cell that a robot has left", Scene::busy, x -> wallAt(x, 19), 0);
        Check.taken("promise 2: a wall is for good", ShelfSwarm::new,
                x -> wallAt(x, 5) + closedAt(x, 5, true) + closedAt(x, 5, false) + x.distance(4, 5), 1 + ShelfSwarm.NONE);
        Check.taken("promise 2: a closed cell", ShelfSwarm::new,
                x -> closedAt(x, 5, true) + wallAt(x, 5) + closedAt(x, 5, false) + x.distance(4, 5), 1 + ShelfSwarm.NONE);
        Check.taken("promise 2: all cells", ShelfSwarm::new, x -> {
            for (int cell = 0; cell < 64; cell++) {
                x.wall(cell);
            }
            return x.distance(0, 1) + x.distance(63, 62) + x.distance(9, 8);
        }, -3);
    }

    private static void closedArguments() {
        for (int cell : OFF_THE_FLOOR) {
            Check.refused("promise 3: setClosed(" + cell + ", true)", ShelfSwarm::new, Check.ARGUMENT,
                    x -> closedAt(x, cell, true));
            Check.refused("promise 3: setClosed(" + cell + ", false)", Scene::busy, Check.ARGUMENT,
                    x -> closedAt(x, cell, false));
        }
        Check.taken("promise 3: setClosed(0, true)", ShelfSwarm::new,
                x -> closedAt(x, 0, true) * 10 + x.distance(1, 0), ShelfSwarm.NONE);
        Check.taken("promise 3: setClosed(63, true)", ShelfSwarm::new,
                x -> closedAt(x, 63, true) * 10 + x.distance(62, 63), ShelfSwarm.NONE);
    }

    private static void closedTaken() {
        Check.taken("promise 3: a new cell was open", ShelfSwarm::new, x -> closedAt(x, 9, false), 0);
        Check.taken("promise 3: a closed one is closed again", ShelfSwarm::new,
                x -> closedAt(x, 9, true) * 10 + closedAt(x, 9, true), 1);
        Check.taken("promise 3: a closed one is opened", ShelfSwarm::new,
                x -> closedAt(x, 9, true) * 100 + closedAt(x, 9, false) * 10 + x.distance(8, 9), 11);
        Check.taken("promise 3: an opened one is opened again", ShelfSwarm::new,
                x -> closedAt(x, 9, true) * 100 + closedAt(x, 9, false) * 10 + closedAt(x, 9, false), 10);
        Check.taken("promise 3: its neighbours stay open", ShelfSwarm::new,
                x -> closedAt(x, 9, true) + x.distance(0, 8) + x.distance(0, 10), 4);
        Check.taken("promise 3: the home of a tray", Scene::full, x -> closedAt(x, 0, true), 0);
        Check.taken("promise 3: the cell of a station", Scene::full, x -> closedAt(x, 63, true), 0);
        Check.taken("promise 3: a robot leaves it, and can't come back", Scene::busy,
                x -> closedAt(x, 20, true) + x.tick(1) * 0 + x.cellOf(2) * 10 + x.distance(21, 20), 209);
        Check.taken("promise 3: a robot does not enter it", Scene::busy,
                x -> closedAt(x, 21, true) + x.tick(1) * 0 + x.cellOf(2), 12);
        Check.taken("promise 3: opening does not make a DEAD robot's cell open", Scene::busy,
                x -> closedAt(x, 58, false) + x.distance(59, 58), ShelfSwarm.NONE);
    }

    private static void distanceArguments() {
        for (int cell : OFF_THE_FLOOR) {
            Check.refused("promise 4: from " + cell, ShelfSwarm::new, Check.ARGUMENT, x -> x.distance(cell, 0));
            Check.refused("promise 4: to " + cell, ShelfSwarm::new, Check.ARGUMENT, x -> x.distance(0, cell));
            Check.refused("promise 4: from and to " + cell, ShelfSwarm::new, Check.ARGUMENT,
                    x -> x.distance(cell, cell));
        }
        Check.taken("promise 4: 0 to 63", ShelfSwarm::new, x -> x.distance(0, 63), 14);
        Check.taken("promise 4: 63 to 0", ShelfSwarm::new, x -> x.distance(63, 0), 14);
        Check.taken("promise 4: 7 to 56", ShelfSwarm::new, x -> x.distance(7, 56), 14);
        Check.taken("promise 4: a neighbour", ShelfSwarm::new, x -> x.distance(62, 63), 1);
    }

    private static void distanceOfTheSameCell() {
        Check.taken("promise 4: 0 to 0", ShelfSwarm::new, x -> x.distance(0, 0), 0);
        Check.taken("promise 4: 63 to 63", ShelfSwarm::new, x -> x.distance(63, 63), 0);
        Check.taken("promise 4: a wall to itself", ShelfSwarm::new, x -> wallAt(x, 9) + x.distance(9, 9), 0);
        Check.taken("promise 4: a closed cell to itself", ShelfSwarm::new,
                x -> closedAt(x, 9, true) + x.distance(9, 9), 0);
        Check.taken("promise 4: a DEAD robot's cell to itself", Scene::busy, x -> x.distance(58, 58), 0);
    }

    private static void distanceOfCellsThatAreNotOpen() {
        Check.taken("promise 4: from a wall", ShelfSwarm::new, x -> wallAt(x, 9) + x.distance(9, 11), 2);
        Check.taken("promise 4: to a wall", ShelfSwarm::new, x -> wallAt(x, 9) + x.distance(11, 9), -1);
        Check.taken("promise 4: round a wall", ShelfSwarm::new, x -> wallAt(x, 9) + x.distance(8, 10), 4);
        Check.taken("promise 4: from a closed cell", ShelfSwarm::new, x -> closedAt(x, 9, true) + x.distance(9, 11), 2);
        Check.taken("promise 4: to a closed cell", ShelfSwarm::new, x -> closedAt(x, 9, true) + x.distance(11, 9), -1);
        Check.taken("promise 4: round a closed cell", ShelfSwarm::new, x -> closedAt(x, 9, true) + x.distance(8, 10), 4);
        Check.taken("promise 4: from a DEAD robot's cell", Scene::busy, x -> x.distance(58, 60), 2);
        Check.taken("promise 4: to a DEAD robot's cell", Scene::busy, x -> x.distance(60, 58), -1);
        Check.taken("promise 4: round a DEAD robot's cell", Scene::busy, x -> x.distance(57, 59), 4);
        Check.taken("promise 4: to a SERVING robot's cell", Scene::busy, x -> x.distance(6, 7), 1);
        Check.taken("promise 4: through a BRINGING robot's cell", Scene::busy, x -> x.distance(19, 21), 2);
        Check.taken("promise 4: to an IDLE robot's cell", Scene::busy, x -> x.distance(1, 0), 1);
        Check.taken("promise 4: a repaired one's cell is open", Scene::busy, x -> x.repair(0) * 10 + x.distance(59, 58), 41);
        Check.taken("promise 4: closed, and with a robot that was DEAD", Scene::busy,
                x -> closedAt(x, 58, true) + x.repair(0) * 10 + x.distance(59, 58), 39);
    }

    /** A cell of an edge, whose neighbours on the floor are walls, is shut in: it has no others. */
    private static void edgesOfTheFloor() {
        for (int i = 1; i < 7; i++) {
            shutIn("terms: the first row has nothing above, in " + i, i, 56 + i, i - 1, i + 1, i + 8);
            shutIn("terms: the last row has nothing below, in " + (56 + i), 56 + i, i, 55 + i, 57 + i, 48 + i);
            shutIn("terms: the first column has nothing to the left, in " + 8 * i, 8 * i, 8 * i - 1,
                    8 * i - 8, 8 * i + 1, 8 * i + 8);
            int last = 8 * i + 7;
            shutIn("terms: the last column has nothing to the right, in " + last, last, last + 1,
                    last - 8, last - 1, last + 8);
        }
    }

    private static void shutIn(String what, int cell, int wrapped, int... walls) {
        ShelfSwarm x = new ShelfSwarm();
        Scene.walls(x, walls);
        Check.due(what, x.distance(cell, wrapped) * 10 + x.distance(wrapped, cell), -11);
        for (int wall : walls) {
            Check.due(what + ", beside " + wall, x.distance(wall, cell), 1);
        }
    }

    private static void edgesOfRows() {
        for (int row = 0; row < 7; row++) {
            int last = 8 * row + 7;
            Check.taken("terms: the row " + row + " does not go on in the next one", ShelfSwarm::new,
                    x -> x.distance(last, last + 1) * 10 + x.distance(last + 1, last), 88);
        }
    }

    private static void corners() {
        int[][] corners = {{0, 1, 8}, {7, 6, 15}, {56, 48, 57}, {63, 55, 62}};
        for (int[] corner : corners) {
            String what = "terms: the corner " + corner[0];
            ShelfSwarm x = new ShelfSwarm();
            x.wall(corner[1]);
            Check.due(what + " has a second neighbour", x.distance(corner[0], 27) > 0, true);
            x.wall(corner[2]);
            Check.due(what + " has no third neighbour", x.distance(corner[0], 27), ShelfSwarm.NONE);
            Check.due(what + " is a neighbour of both", x.distance(corner[1], corner[0])
                    + x.distance(corner[2], corner[0]), 2);
        }
    }
}
