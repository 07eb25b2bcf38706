/** The boundary cases of the promises 24 to 29 and 32 to 35. */
final class TickBounds {
    private static final int[] NO_TICKS = {0, 51, -1, Integer.MIN_VALUE, Integer.MAX_VALUE};

    private TickBounds() {
    }

    static void run() {
        tickArguments();
        endOfTime();
        picksOfATick();
        counters();
        noPicks();
        firstAndLastPick();
        allPicksThereCanBe();
    }

    private static void tickArguments() {
        for (int ticks : NO_TICKS) {
            Check.refused("promise 24: tick(" + ticks + ")", Scene::busy, Check.ARGUMENT, x -> x.tick(ticks));
            Check.refused("promise 24: tick(" + ticks + ") at the end of time, the argument first",
                    () -> Scene.at(3000), Check.ARGUMENT, x -> x.tick(ticks));
        }
        Check.taken("promise 24: tick(1)", ShelfSwarm::new, x -> x.tick(1) * 100 + x.time(), 1);
        Check.taken("promise 24: tick(50)", ShelfSwarm::new, x -> x.tick(50) * 100 + x.time(), 50);
    }

    private static void endOfTime() {
        Check.taken("promise 24: 2950 and 50", () -> Scene.at(2950), x -> x.tick(50) + x.time(), 3000);
        Check.refused("promise 24: 2951 and 50", () -> Scene.at(2951), Check.STATE, x -> x.tick(50));
        Check.taken("promise 24: 2951 and 49", () -> Scene.at(2951), x -> x.tick(49) + x.time(), 3000);
        Check.taken("promise 24: 2999 and 1", () -> Scene.at(2999), x -> x.tick(1) + x.time(), 3000);
        Check.refused("promise 24: 2999 and 2", () -> Scene.at(2999), Check.STATE, x -> x.tick(2));
        Check.refused("promise 24: 3000 and 1", () -> Scene.at(3000), Check.STATE, x -> x.tick(1));
        Check.refused("promise 24: 3000 and 50", () -> Scene.at(3000), Check.STATE, x -> x.tick(50));
        Check.taken("promise 25: before any tick", ShelfSwarm::new, x -> x.time(), 0);
        Check.taken("promise 25: the end of time", () -> Scene.at(3000), x -> x.time(), 3000);
        Check.taken("promise 25: no other call lets time pass", Scene::full, x -> x.time(), 0);
    }

    private static void picksOfATick() {
        Check.taken("promise 24: nothing is picked", Scene::coming, x -> x.tick(1), 0);
        Check.taken("promise 24: one piece in a tick", () -> Scene.serving(100, 50), x -> x.tick(1), 1);
        Check.taken("promise 24: fifty pieces in fifty ticks", () -> Scene.serving(100, 50), x -> x.tick(50), 50);
        Check.taken("promise 24: not those of an earlier call", () -> Scene.serving(100, 50),
                x -> x.tick(49) * 100 + x.tick(50), 4901);
        Check.taken("promise 24: three pieces in a tick", TickBounds::threeServing, x -> x.tick(1), 3);
        Check.taken("promise 24: a hundred and fifty pieces in fifty ticks", TickBounds::threeServing, x -> x.tick(50), 150);
    }

    /** Three robots serve three stations, each with the station's tray, that is at home there. */
    private static ShelfSwarm threeServing() {
        ShelfSwarm x = new ShelfSwarm();
        for (int i = 0; i < 3; i++) {
            x.addStation(i);
            x.addTray(i, i, 100);
            x.addRobot(i, i);
            Scene.ordered(x, i, i, 50);
        }
        x.tick(2);
        return x;
    }

    private static void counters() {
        Check.taken("promise 26: no step yet", Scene::full, x -> x.steps(), 0);
        Check.taken("promise 26: the first step", Scene::coming, x -> x.steps(), 1);
        Check.taken("promise 26: no step in the cell of the goal", () -> Scene.serving(9, 9), x -> x.tick(20) + x.steps(), 9);
        Check.taken("promise 26: a step aside", Scene::coming,
                x -> x.addRobot(26, 0) * 100 + x.tick(1) + x.steps(), 103);
        Check.taken("promise 27: no ring yet", Scene::full, x -> x.rings(), 0);
        Check.taken("promise 27: the first ring", TrafficTests::ringOfFour, x -> x.tick(1) + x.rings(), 1);
        Check.taken("promise 27: two robots are no ring of 3", () -> TrafficTests.meeting(0, 0),
                x -> x.tick(1) * 10 + x.rings(), 0);
        Check.taken("promise 28: no yield yet", Scene::full, x -> x.yields(), 0);
        Check.taken("promise 28: the first yield", () -> TrafficTests.meeting(0, 0), x -> x.tick(1) * 10 + x.yields(), 1);
        Check.taken("promise 28: a ring of four does not yield", TrafficTests::ringOfFour, x -> x.tick(1) + x.yields(), 0);
        Check.taken("promise 29: no knot yet", Scene::full, x -> x.knots(), 0);
        Check.taken("promise 29: the first knot", TrafficTests::knotted, x -> x.tick(1) * 10 + x.knots(), 1);
        Check.taken("promise 29: the same knot in fifty ticks", TrafficTests::knotted, x -> x.tick(50) * 10 + x.knots(), 50);
        Check.taken("promise 29: who yields makes no knot", () -> TrafficTests.meeting(0, 0),
                x -> x.tick(1) * 10 + x.knots(), 0);
    }

    private static void noPicks() {
        Check.taken("promise 32: no pick yet", Scene::full, x -> x.picks(), 0);
        Check.refused("promise 33: no pick yet", Scene::full, Check.INDEX, x -> x.pickedFrom(0));
        Check.refused("promise 34: no pick yet", Scene::full, Check.INDEX, x -> x.pickedFor(0));
        Check.refused("promise 35: no pick yet", Scene::full, Check.INDEX, x -> x.pickedIn(0));
        int[] wrong = {-1, 6, Integer.MIN_VALUE, Integer.MAX_VALUE};
        for (int pick : wrong) {
            String what = "the pick " + pick + " of six";
            Check.refused("promise 33: " + what, TickBounds::sixPicks, Check.INDEX, x -> x.pickedFrom(pick));
            Check.refused("promise 34: " + what, TickBounds::sixPicks, Check.INDEX, x -> x.pickedFor(pick));
            Check.refused("promise 35: " + what, TickBounds::sixPicks, Check.INDEX, x -> x.pickedIn(pick));
        }
    }

    private static ShelfSwarm sixPicks() {
        ShelfSwarm x = threeServing();
        x.tick(2);
        return x;
    }

    private static void firstAndLastPick() {
        Check.taken("promise 32: six picks", TickBounds::sixPicks, x -> x.picks(), 6);
        Check.taken("promise 33: the first of six", TickBounds::sixPicks, x -> x.pickedFrom(0), 0);
        Check.taken("promise 33: the last of six", TickBounds::sixPicks, x -> x.pickedFrom(5), 2);
        Check.taken("promise 34: the first of six", TickBounds::sixPicks, x -> x.pickedFor(0), 0);
        Check.taken("promise 34: the last of six", TickBounds::sixPicks, x -> x.pickedFor(5), 2);
        Check.taken("promise 35: the first of six", TickBounds::sixPicks, x -> x.pickedIn(0), 3);
        Check.taken("promise 35: the last of six", TickBounds::sixPicks, x -> x.pickedIn(5), 4);
        Check.taken("promise 34: the line was given up since", TickBounds::sixPicks,
                x -> x.giveUp(2, 0) * 10 + x.pickedFor(5), 22);
    }

    /** All pieces of all lines that there can be are picked: 1500, in ten times 50 ticks and the ways between. */
    private static void allPicksThereCanBe() {
        ShelfSwarm x = new ShelfSwarm();
        for (int i = 0; i < 3; i++) {
            x.addStation(i);
            x.addTray(i, i, 100);
            x.addRobot(i, i);
            for (int filling = 0; filling < 4; filling++) {
                x.fill(i, 100);
            }
        }
        for (int order = 0; order < 10; order++) {
            x.addOrder();
            for (int line = 0; line < 3; line++) {
                x.addLine(order, line, 50);
                x.claim(line, order, line);
            }
        }
        for (int i = 0; i < 11; i++) {
            x.tick(50);
        }
        Check.due("promise 32: 1500 picks", x.picks(), 1500);
        Check.due("promise 33: the last of 1500", x.pickedFrom(1499), 2);
        Check.due("promise 34: the last of 1500", x.pickedFor(1499), 9);
        Check.due("promise 35: the last of 1500", x.pickedIn(1499), 520);
        Check.due("promise 33: the pick 1500 is refused", Check.thrown(x, y -> y.pickedFrom(1500)),
                "IndexOutOfBoundsException");
        Check.due("promise 12: nothing is left of the last line", x.left(9, 2), 0);
        Check.due("promise 30: all trays are empty", x.stock(0) + x.stock(1) + x.stock(2), 0);
        Check.due("promise 31: all that came in is picked", x.stockByPicks(0) + x.stockByPicks(2), 0);
    }
}
